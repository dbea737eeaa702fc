/** Promises 11 to 15: what is done with a CUP and told of it. */
public final class CupTest extends Shops {
    public static void main(String[] args) {
        promise11send();
        promise11refusals();
        promise12resend();
        promise13porterOfAStray();
        promise13porterOfAWire();
        promise13porterOfOneThatWaitsForNone();
        promise14cupAt();
        promise14refusals();
        promise15coins();
        Due.end();
    }

    /** POSTS: 1 a JOINT, 2 and 3 COUNTERS on it, all DOUBLE, LENGTH 2, GAP 1; CUP 0 of 2; CLERK 0 needs 1 tick. */
    private static FlyingChange shop() {
        FlyingChange x = shopWithoutClerks();
        x.clerk(1);
        return x;
    }

    private static FlyingChange shopWithoutClerks() {
        FlyingChange x = new FlyingChange();
        x.post(0, false, 2, 1, true);
        x.post(1, true, 2, 1, true);
        x.post(1, true, 2, 1, true);
        x.cup(2);
        return x;
    }

    /** CUP 0 is STRAY at 3, by a CATCH that throws the second CUP the wrong way; THE TICK is 20. */
    private static FlyingChange withStray() {
        FlyingChange x = shop();
        x.joint(1, 1, 2);
        x.send(0, 5, 2, 1);
        x.tick(10);
        x.send(0, 5, 2, 1);
        x.tick(10);
        return x;
    }

    private static void isCup(FlyingChange x, String when, int... due) {
        for (int what = 0; what < due.length; what++) {
            Due.is(when + ": cupAt(0, " + what + ")", x.cupAt(0, what), due[what]);
        }
    }

    private static void promise11send() {
        FlyingChange x = shop();
        x.tick(3);
        Due.is("pays 30 for 25", x.send(0, 25, 4, 1), 5);
        isCup(x, "sent", 1, 2, 3, 1, NONE, 2, 1, 25, 3);
        Due.is("it holds 30", x.coins(0, 4), 1);
        Due.is("paid in", x.total(5), 30);
        Due.is("not home", x.total(3), 1);
        x.cup(3);
        Due.is("pays just enough", x.send(1, 3000, 5, 50), 0);
        Due.is("paid in, together", x.total(5), 3030);
    }

    private static void promise11refusals() {
        FlyingChange x = shop();
        int[][] outside = {{0, 0, 1}, {3001, 5, 50}, {-1, 0, 1}, {1, -1, 1}, {1, 6, 1}, {1, 0, 0}, {1, 0, 51}};
        for (int[] o : outside) {
            Due.is("send(0, " + o[0] + ", " + o[1] + ", " + o[2] + ")", x.send(0, o[0], o[1], o[2]), OUTSIDE);
            Due.is("of none: send(1, ..)", x.send(1, o[0], o[1], o[2]), UNKNOWN);
        }
        Due.is("of -1", x.send(-1, 1, 0, 1), UNKNOWN);
        Due.is("not enough", x.send(0, 2, 0, 1), STATE);
        Due.is("not enough of the greatest", x.send(0, 3000, 5, 49), STATE);
        Due.is("what is refused pays nothing", x.total(5), 0);
        isCup(x, "refused", 0, 2, NONE, NONE, NONE, 2, 0, NONE, NONE);
        Due.is("sent", x.send(0, 1, 0, 1), 0);
        Due.is("it is not home", x.send(0, 1, 0, 1), STATE);
        Due.is("it is not home, and price 0", x.send(0, 0, 0, 1), OUTSIDE);
    }

    private static void promise12resend() {
        FlyingChange x = shop();
        Due.is("of none", x.resend(1), UNKNOWN);
        Due.is("of -1", x.resend(-1), UNKNOWN);
        Due.is("it is home", x.resend(0), STATE);
        x = withStray();
        isCup(x, "stray", 5, 3, NONE, NONE, NONE, 2, 3, 5, 10);
        Due.is("resent from", x.resend(0), 3);
        isCup(x, "resent", 1, 3, 20, 1, NONE, 2, 3, 5, 10);
        Due.is("its coins are in it", x.coins(0, 6), 6);
        Due.is("it is no stray now", x.resend(0), STATE);
        x.tick(5);
        isCup(x, "it is with a clerk", 4, 0, 1, NONE, NONE, 2, 3, 5, 10);
        x.tick(1);
        Due.is("its sale is not looked at again", x.cupAt(0, 6), 3);
        x.tick(4);
        isCup(x, "the third goes the right way", 0, 2, NONE, NONE, NONE, 2, 0, NONE, NONE);
        Due.is("two are done with", x.waits(2, 0), 2);
        Due.is("the greatest wait", x.waits(2, 2), 20);
    }

    private static void promise13porterOfAStray() {
        FlyingChange x = shop();
        Due.is("of none", x.porter(1), UNKNOWN);
        Due.is("it is home", x.porter(0), STATE);
        x.send(0, 5, 2, 1);
        Due.is("it waits at its home", x.porter(0), STATE);
        x = withStray();
        Due.is("2 and 2 ticks of length, at 3 each", x.porter(0), 32);
        isCup(x, "with a porter", 6, NONE, 32, NONE, NONE, 2, 3, 5, 10);
        Due.is("he has it", x.porter(0), STATE);
        Due.is("it is no stray", x.resend(0), STATE);
        x.tick(11);
        Due.is("a tick ahead", x.cupAt(0, 0), 6);
        x.tick(1);
        isCup(x, "he is there", 0, 2, NONE, NONE, NONE, 2, 0, NONE, NONE);
        Due.is("its sale is done with", x.waits(2, 0), 2);
        Due.is("its wait", x.waits(2, 2), 22);
        Due.is("its coins are handed out", x.waits(2, 4), 12);
    }

    private static void promise13porterOfAWire() {
        FlyingChange x = shop();
        x.send(0, 5, 2, 1);
        x.tick(2);
        Due.is("on a whole wire", x.porter(0), STATE);
        x.cord(2, false);
        Due.is("on its own wire: one tick at least", x.porter(0), 3);
        x.tick(1);
        isCup(x, "home", 0, 2, NONE, NONE, NONE, 2, 0, NONE, NONE);
        Due.is("an open sale is done with", x.waits(2, 0), 1);
        Due.is("and was not refused", x.waits(2, 1), 0);
        Due.is("what was paid is handed out", x.total(6), 6);
        x.cord(2, true);
        x.send(0, 5, 2, 1);
        x.tick(4);
        x.cord(1, false);
        isCup(x, "on wire 1", 2, 1, 1, 1, NONE, 2, 1, 5, 3);
        Due.is("from the post that hangs by it", x.porter(0), 13);
        x.cord(1, true);
        x.send(0, 5, 2, 1);
        x.tick(6);
        x.send(0, 5, 2, 1);
        x.cord(2, false);
        x.tick(1);
        Due.is("waiting for a broken wire, to go up", x.porter(0), STATE);
    }

    private static void promise13porterOfOneThatWaitsForNone() {
        FlyingChange x = new FlyingChange();
        x.post(0, false, 2, 1, true);
        x.post(1, true, 3, 1, true);
        x.post(1, false, 5, 1, true);
        x.cup(2);
        x.clerk(1);
        x.joint(1, 1, 2);
        x.send(0, 1, 0, 1);
        x.tick(12);
        Due.is("the first is home", x.cupAt(0, 0), 0);
        x.send(0, 1, 0, 1);
        x.tick(14);
        isCup(x, "it comes to a joint without children", 1, 3, 26, 0, NONE, 2, 2, 1, 12);
        x.post(3, true, 1, 1, true);
        x.tick(4);
        isCup(x, "it waits for none, though there is a child now", 1, 3, 26, 0, NONE, 2, 2, 1, 12);
        Due.is("5 and 3 ticks of length", x.porter(0), 54);
        x.tick(24);
        Due.is("home", x.cupAt(0, 0), 0);
    }

    private static void promise14cupAt() {
        FlyingChange x = shopWithoutClerks();
        x.clerk(30);
        x.clerk(5);
        x.cup(3);
        x.drawer(0, 9);
        isCup(x, "home", 0, 2, NONE, NONE, NONE, 2, 0, NONE, NONE);
        x.tick(1);
        x.send(1, 3, 1, 1);
        x.tick(1);
        x.send(0, 5, 2, 1);
        isCup(x, "waiting to go up", 1, 2, 2, 1, NONE, 2, 1, 5, 2);
        x.tick(2);
        isCup(x, "on a wire up", 2, 2, 1, 1, NONE, 2, 1, 5, 2);
        x.cord(1, false);
        x.tick(1);
        isCup(x, "waiting at a joint to go up", 1, 1, 5, 1, NONE, 2, 1, 5, 2);
        x.cord(1, true);
        x.tick(3);
        isCup(x, "with the clerk who has none", 4, 1, 5, NONE, NONE, 2, 1, 5, 2);
        x.tick(2);
        isCup(x, "with the clerk, 2 ticks later", 4, 1, 3, NONE, NONE, 2, 1, 5, 2);
        x.cord(1, false);
        x.tick(3);
        isCup(x, "waiting in the cage to go down", 1, 0, 13, 0, 1, 2, 2, 5, 2);
        x.cord(1, true);
        x.tick(2);
        isCup(x, "on a wire down", 2, 1, 1, 0, NONE, 2, 2, 5, 2);
        x.cord(2, false);
        x.tick(1);
        isCup(x, "waiting at a joint to go down", 1, 1, 16, 0, 2, 2, 2, 5, 2);
        FlyingChange y = shop();
        y.cup(3);
        y.cup(2);
        y.send(1, 1, 0, 1);
        y.tick(1);
        y.send(0, 1, 0, 1);
        y.cord(3, false);
        y.tick(5);
        isCup(y, "taken as soon as it comes to the row", 4, 0, 1, NONE, NONE, 2, 1, 1, 1);
        FlyingChange z = new FlyingChange();
        z.post(0, true, 1, 1, false);
        z.cup(1);
        z.send(0, 1, 0, 1);
        z.tick(9);
        isCup(z, "in the row", 3, NONE, 2, NONE, NONE, 1, 1, 1, 0);
    }

    private static void promise14refusals() {
        FlyingChange x = shop();
        Due.is("cupAt(1, 0)", x.cupAt(1, 0), UNKNOWN);
        Due.is("cupAt(-1, 9)", x.cupAt(-1, 9), UNKNOWN);
        Due.is("cupAt(0, -1)", x.cupAt(0, -1), OUTSIDE);
        Due.is("cupAt(0, 9)", x.cupAt(0, 9), OUTSIDE);
    }

    private static void promise15coins() {
        FlyingChange x = shop();
        int[] worth = {1, 3, 6, 12, 30, 60};
        for (int kind = 0; kind < 6; kind++) {
            x.cup(2);
            Due.is("empty: coins(" + kind + ", 6)", x.coins(kind, 6), 0);
            x.send(kind, 1, kind, kind + 2);
            for (int k = 0; k < 6; k++) {
                Due.is("coins(" + kind + ", " + k + ")", x.coins(kind, k), k == kind ? kind + 2 : 0);
            }
            Due.is("coins(" + kind + ", 6)", x.coins(kind, 6), (kind + 2) * worth[kind]);
        }
        Due.is("coins(7, 0)", x.coins(7, 0), UNKNOWN);
        Due.is("coins(-1, 9)", x.coins(-1, 9), UNKNOWN);
        Due.is("coins(0, -1)", x.coins(0, -1), OUTSIDE);
        Due.is("coins(0, 7)", x.coins(0, 7), OUTSIDE);
    }
}
