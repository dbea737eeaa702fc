/** Promises 33 to 36: BELLS, and what there is in all. */
public final class BellTest extends Shops {
    public static void main(String[] args) {
        promise33bells();
        promise33latest300();
        promise34bell();
        promise34silent();
        promise35mayBe();
        promise35bellsOfOthers();
        promise35bellsOneBehindAnother();
        promise35silent();
        promise35forgotten();
        promise36total();
        Due.end();
    }

    /** A JOINT 1 (LENGTH 2), COUNTERS 2 (LENGTH 1) and 3 (LENGTH 3) on it; CUPS 0 of 2, 1 of 3; all DOUBLE, GAP 1. */
    private static FlyingChange shop() {
        FlyingChange x = new FlyingChange();
        x.post(0, false, 2, 1, true);
        x.post(1, true, 1, 1, true);
        x.post(1, true, 3, 1, true);
        x.cup(2);
        x.cup(3);
        x.clerk(1);
        return x;
    }

    private static void promise33bells() {
        FlyingChange x = shop();
        x.send(0, 1, 0, 1);
        x.tick(1);
        Due.is("none yet", x.bells(), 0);
        x.tick(1);
        Due.is("up", x.bells(), 1);
        x.tick(4);
        Due.is("the cage rings none", x.bells(), 1);
        x.tick(1);
        Due.is("down", x.bells(), 2);
        x.tick(9);
        Due.is("a counter rings none", x.bells(), 2);
    }

    private static void goes(FlyingChange x, int cup, int times) {
        for (int i = 0; i < times; i++) {
            x.send(cup, 1, 0, 1);
            x.tick(20);
        }
    }

    private static void promise33latest300() {
        FlyingChange x = chain(8);
        goes(x, 0, 18);
        Due.is("18 times 16", x.bells(), 288);
        goes(x, 0, 1);
        Due.is("300 at most", x.bells(), 300);
        Due.is("the oldest 4 are gone: joint", x.bell(0, false), 4);
        Due.is("the oldest 4 are gone: tick", x.bell(0, true), 6);
        Due.is("the latest: joint", x.bell(299, false), 8);
        Due.is("the latest: tick", x.bell(299, true), 379);
        Due.is("behind the latest", x.bell(300, true), NONE);
        goes(x, 0, 20);
        Due.is("300 still", x.bells(), 300);
        Due.is("the oldest: joint", x.bell(0, false), 4);
        Due.is("the oldest: tick", x.bell(0, true), 406);
        Due.is("in the middle: joint", x.bell(150, false), 3);
        Due.is("in the middle: tick", x.bell(150, true), 594);
    }

    private static void promise34bell() {
        FlyingChange x = shop();
        Due.is("none: bell(0, true)", x.bell(0, true), NONE);
        x.send(1, 1, 0, 1);
        x.tick(2);
        x.send(0, 1, 0, 1);
        x.tick(2);
        Due.is("two at once", x.bells(), 2);
        Due.is("bell(0, true)", x.bell(0, true), 4);
        Due.is("bell(1, true)", x.bell(1, true), 4);
        Due.is("bell(1, false)", x.bell(1, false), 1);
        Due.is("bell(2, false)", x.bell(2, false), NONE);
        Due.is("bell(-1, false)", x.bell(-1, false), NONE);
        Due.is("bell(least)", x.bell(Integer.MIN_VALUE, true), NONE);
        FlyingChange y = new FlyingChange();
        for (int joint = 1; joint <= 2; joint++) {
            y.post(0, false, 1, 1, true);
        }
        y.post(2, true, 1, 1, true);
        y.post(1, true, 1, 1, true);
        y.cup(3);
        y.cup(4);
        y.send(0, 1, 0, 1);
        y.send(1, 1, 0, 1);
        y.tick(2);
        Due.is("cups by number: the joint of the first", y.bell(0, false), 2);
        Due.is("cups by number: the joint of the second", y.bell(1, false), 1);
    }

    private static void promise34silent() {
        FlyingChange x = shop();
        x.joint(1, 2, 1);
        x.send(0, 1, 0, 1);
        x.tick(2);
        Due.is("a silent one rings none", x.bells(), 0);
        x.joint(1, 2, 0);
        x.tick(5);
        Due.is("it rings again: bells", x.bells(), 1);
        Due.is("it rings again: tick", x.bell(0, true), 7);
    }

    private static void isMayBe(FlyingChange x, String when, int cup, int due) {
        Due.is(when + ", tick " + x.total(2) + ": mayBe(" + cup + ")", x.mayBe(cup), due);
    }

    private static void promise35mayBe() {
        FlyingChange x = shop();
        Due.is("it is home", x.mayBe(0), STATE);
        Due.is("of none", x.mayBe(2), UNKNOWN);
        Due.is("of -1", x.mayBe(-1), UNKNOWN);
        x.send(1, 1, 0, 1);
        isMayBe(x, "just sent", 1, 0);
        x.tick(3);
        isMayBe(x, "3 ticks of length, none rang", 1, 0);
        x.tick(1);
        isMayBe(x, "it rang", 1, 1);
        x.tick(1);
        isMayBe(x, "one tick of length behind it", 1, 1);
        x.tick(1);
        isMayBe(x, "two ticks of length behind it", 1, 2);
        x.tick(5);
        isMayBe(x, "on its way down", 1, 2);
        x.tick(20);
        Due.is("home again", x.mayBe(1), STATE);
    }

    private static void promise35bellsOfOthers() {
        FlyingChange x = shop();
        x.send(0, 1, 0, 1);
        x.tick(1);
        x.send(1, 1, 0, 1);
        x.cord(3, false);
        x.tick(1);
        Due.is("it rang for the other", x.bells(), 1);
        x.tick(4);
        isMayBe(x, "it rang before it can have come", 1, 0);
        x.tick(1);
        Due.is("it rang once more", x.bell(1, true), 7);
        isMayBe(x, "it rang for the other, and can't be told from it", 1, 1);
        x.tick(2);
        isMayBe(x, "and on to the cage", 1, 2);
        isMayBe(x, "the other is home", 0, STATE);
    }

    private static void promise35bellsOneBehindAnother() {
        FlyingChange x = new FlyingChange();
        x.post(0, false, 2, 1, true);
        x.post(1, false, 9, 1, true);
        x.post(2, true, 1, 1, true);
        x.post(1, true, 1, 1, true);
        x.cup(3);
        x.cup(4);
        x.clerk(1);
        x.send(0, 1, 0, 1);
        x.tick(5);
        Due.is("joint 2 rang", x.bell(0, true), 2);
        x.send(1, 1, 0, 1);
        x.tick(5);
        Due.is("joint 1 rang", x.bell(1, true), 7);
        isMayBe(x, "2 + 9 is behind 7", 0, 1);
        x.tick(1);
        isMayBe(x, "it came itself at 11", 0, 2);
        x.tick(2);
        isMayBe(x, "the cage", 0, 3);
    }

    private static void promise35silent() {
        FlyingChange x = shop();
        x.joint(1, 2, 1);
        x.send(1, 1, 0, 1);
        x.cord(3, false);
        x.tick(2);
        isMayBe(x, "a silent one says nothing, but time does", 1, 0);
        x.tick(1);
        isMayBe(x, "as soon as can be", 1, 1);
        x.tick(1);
        isMayBe(x, "one tick behind it", 1, 1);
        x.tick(1);
        isMayBe(x, "two ticks behind it", 1, 2);
        x.joint(1, 2, 0);
        isMayBe(x, "it is not silent now, and did not ring", 1, 0);
        x.joint(1, 2, 1);
        isMayBe(x, "it is silent now", 1, 2);
    }

    private static void promise35forgotten() {
        FlyingChange x = chain(8);
        x.post(1, true, 1, 1, true);
        x.cup(10);
        x.send(0, 1, 0, 1);
        x.tick(3);
        x.cord(7, false);
        isMayBe(x, "it stands on wire 7", 0, 2);
        for (int i = 0; i < 148; i++) {
            x.send(1, 1, 0, 1);
            x.tick(6);
        }
        Due.is("298 bells", x.bells(), 298);
        isMayBe(x, "they rang at 8 and 7, and not at 6", 0, 2);
        x.send(1, 1, 0, 1);
        x.tick(6);
        isMayBe(x, "that is still kept", 0, 2);
        x.send(1, 1, 0, 1);
        x.tick(6);
        isMayBe(x, "the bell of 8 is gone", 0, 0);
    }

    private static void areTotals(FlyingChange x, String when, int... due) {
        for (int what = 0; what < due.length; what++) {
            Due.is(when + ": total(" + what + ")", x.total(what), due[what]);
        }
    }

    private static void promise36total() {
        FlyingChange x = shop();
        areTotals(x, "at first", 4, 2, 0, 0, 1, 0, 0, 0);
        x.drawer(1, 4);
        x.send(0, 3, 2, 1);
        x.send(1, 60, 5, 1);
        x.clerk(3);
        areTotals(x, "sent", 4, 2, 0, 2, 2, 66, 0, 78);
        x.tick(8);
        areTotals(x, "one is home", 4, 2, 8, 1, 2, 66, 3, 75);
        x.tick(50);
        areTotals(x, "both are home", 4, 2, 58, 0, 2, 66, 3, 75);
        x.fetch(5, 2, 1);
        areTotals(x, "what is fetched is not there", 4, 2, 58, 0, 2, 66, 3, 75);
        x.tick(1);
        areTotals(x, "it is there", 4, 2, 59, 0, 2, 66, 3, 195);
        Due.is("total(8)", x.total(8), OUTSIDE);
        Due.is("total(-1)", x.total(-1), OUTSIDE);
    }
}
