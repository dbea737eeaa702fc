/** The ends within the rules: of a WIRE, of CLERKS and SALES, of a PORTER's way, of change, of BELLS. */
public final class RuleTest extends Shops {
    public static void main(String[] args) {
        promise16lengths();
        promise16gapsUp();
        promise16gapsDown();
        promise16gapsOfAShortWire();
        promise16gapsOfASingleWire();
        promise16standingCups();
        promise16standingCupsTheOtherWay();
        promise16gapBehindACupThatIsGone();
        promise16onlyOneMayOnASingleWire();
        promise16ticksOneByOne();
        promise16clerksNeed();
        promise16salesAreAskedOnce();
        promise16changeOfNothing();
        promise16fetchedForTheNext();
        promise16fetchedInAnyOrder();
        promise13porterWays();
        promise13porterToADeepHome();
        promise13porterTurnsAtALowJoint();
        promise13porterTakesNoOther();
        promise13porterIsThere();
        promise21likeChange();
        promise20couldOfEachAmount();
        promise20couldOfTheDrawerAlone();
        promise23greatestWait();
        promise24leastClerk();
        promise33ringsOnceForEach();
        promise35leastTicks();
        promise35whereverItIs();
        promise35noneBehindTheTick();
        promise35silentJointIsNotHeard();
        promise35lateBellOfAHighJoint();
        Due.end();
    }

    // ---- a wire

    private static void promise16lengths() {
        for (int length = 1; length <= 20; length++) {
            FlyingChange x = oneWire(length, 1, false, 1);
            x.clerk(1);
            sendAll(x, 0);
            x.tick(length);
            isAt(x, "length " + length, 0, ON_WIRE, 1, length - 1);
            x.tick(1);
            isAt(x, "length " + length, 0, WITH_CLERK, 0, 1);
            x.tick(length);
            isAt(x, "length " + length + ", down", 0, ON_WIRE, 1, length - 1);
            Due.is("length " + length + ", it goes down", x.cupAt(0, 3), 0);
            x.tick(1);
            isAt(x, "length " + length + ", home", 0, HOME, 1, NONE);
            Due.is("length " + length + ", its wait", x.waits(1, 2), 2 * length + 2);
        }
    }

    private static void promise16gapsUp() {
        for (int gap = 1; gap <= 10; gap++) {
            for (int sort = 0; sort < 2; sort++) {
                FlyingChange x = oneWire(20, gap, sort == 1, 3);
                sendAll(x, 0, 1, 2);
                x.tick(gap);
                isAt(x, "gap " + gap + ", a tick too early", 1, WAITING, 1, 0);
                x.tick(1);
                isAt(x, "gap " + gap, 1, ON_WIRE, 1, 0);
                isAt(x, "gap " + gap + ", the first", 0, ON_WIRE, 1, gap);
                if (gap > 1) {
                    x.tick(gap - 1);
                    isAt(x, "gap " + gap + ", a tick too early again", 2, WAITING, 1, 0);
                }
                x.tick(1);
                isAt(x, "gap " + gap + ", again", 2, ON_WIRE, 1, 0);
            }
        }
    }

    /** CUPS 0 and 1 are in THE ROW; two CLERKS are done with both at the TICK that is told. */
    private static FlyingChange bothDone(int length, int gap, boolean both) {
        FlyingChange x = oneWire(length, gap, both, 2);
        sendAll(x, 0, 1);
        x.tick(60);
        x.clerk(2);
        x.clerk(2);
        x.tick(3);
        return x;
    }

    private static void promise16gapsDown() {
        for (int gap = 1; gap <= 10; gap++) {
            for (int length = 1; length <= 20; length += 19) {
                for (int sort = 0; sort < 2; sort++) {
                    FlyingChange x = bothDone(length, gap, sort == 1);
                    isAt(x, "gap " + gap + ", the first goes down", 0, ON_WIRE, 1, 0);
                    isAt(x, "gap " + gap + ", the second waits", 1, WAITING, 0, 63);
                    if (gap > 1) {
                        x.tick(gap - 1);
                        isAt(x, "gap " + gap + ", a tick too early", 1, WAITING, 0, 63);
                    }
                    x.tick(1);
                    isAt(x, "gap " + gap + ", down", 1, ON_WIRE, 1, 0);
                }
            }
        }
    }

    private static void promise16gapsOfAShortWire() {
        for (int gap = 2; gap <= 10; gap++) {
            for (int sort = 0; sort < 2; sort++) {
                FlyingChange x = oneWire(1, gap, sort == 1, 2);
                sendAll(x, 0, 1);
                x.tick(gap);
                isAt(x, "the wire is empty", 0, IN_ROW, NONE, 2);
                isAt(x, "less than " + gap + " ticks ago", 1, WAITING, 1, 0);
                x.tick(1);
                isAt(x, gap + " ticks ago", 1, ON_WIRE, 1, 0);
            }
        }
    }

    private static void promise16gapsOfASingleWire() {
        for (int gap = 1; gap <= 10; gap++) {
            FlyingChange x = oneWire(1, gap, false, 2);
            x.clerk(1);
            sendAll(x, 0);
            int down = Math.max(3, 1 + gap);
            x.tick(down - 1);
            Due.is("single, gap " + gap + ": not down yet", x.cupAt(0, 0), gap > 2 ? WAITING : WITH_CLERK);
            x.tick(1);
            isAt(x, "single, gap " + gap + ": down", 0, ON_WIRE, 1, 0);
            sendAll(x, 1);
            if (gap > 1) {
                x.tick(gap - 1);
                isAt(x, "single, gap " + gap + ": not up yet", 1, WAITING, 1, down);
            }
            x.tick(1);
            isAt(x, "single, gap " + gap + ": up", 1, ON_WIRE, 1, 0);
            FlyingChange y = oneWire(1, gap, true, 2);
            y.clerk(1);
            sendAll(y, 0);
            y.tick(3);
            isAt(y, "double, gap " + gap + ": down at once", 0, ON_WIRE, 1, 0);
        }
        FlyingChange z = oneWire(1, 10, true, 2);
        z.clerk(8);
        sendAll(z, 0);
        z.tick(10);
        isAt(z, "double: down", 0, ON_WIRE, 1, 0);
        sendAll(z, 1);
        z.tick(1);
        isAt(z, "double: up a tick later, as 10 ticks ago one went up", 1, ON_WIRE, 1, 0);
    }

    private static void promise16standingCups() {
        for (int place = 0; place <= 6; place++) {
            for (int sort = 0; sort < 2; sort++) {
                FlyingChange x = oneWire(20, 5, sort == 1, 2);
                sendAll(x, 0);
                x.tick(1 + place);
                x.cord(1, false);
                sendAll(x, 1);
                x.tick(30);
                isAt(x, "it stands", 0, ON_WIRE, 1, place);
                isAt(x, "none goes on a broken wire", 1, WAITING, 1, 1 + place);
                x.cord(1, true);
                int early = Math.max(1, 5 - place);
                if (early > 1) {
                    x.tick(early - 1);
                    isAt(x, "at a place less than 5, from " + place, 1, WAITING, 1, 1 + place);
                }
                x.tick(1);
                isAt(x, "at 5 and farther, from " + place, 1, ON_WIRE, 1, 0);
            }
        }
    }

    private static void promise16standingCupsTheOtherWay() {
        for (int place = 0; place <= 19; place += 19) {
            for (int sort = 0; sort < 2; sort++) {
                FlyingChange x = oneWire(20, 2, sort == 1, 2);
                x.clerk(1);
                sendAll(x, 0);
                x.tick(22 + place);
                x.cord(1, false);
                sendAll(x, 1);
                x.tick(30);
                isAt(x, "it stands on its way down", 0, ON_WIRE, 1, place);
                x.cord(1, true);
                x.tick(1);
                boolean gone = place == 19;
                isAt(x, "from " + place, 0, gone ? HOME : ON_WIRE, 1, gone ? NONE : 1);
                boolean may = sort == 1 || gone;
                isAt(x, "the other way", 1, may ? ON_WIRE : WAITING, 1, may ? 0 : 22 + place);
            }
        }
    }

    private static void promise16gapBehindACupThatIsGone() {
        for (int sort = 0; sort < 2; sort++) {
            FlyingChange x = oneWire(20, 10, sort == 1, 2);
            sendAll(x, 0, 1);
            x.tick(1);
            x.cord(1, false);
            Due.is("a porter takes it", x.porter(0), 2);
            x.cord(1, true);
            x.tick(9);
            Due.is("the wire is empty", x.on(1, true), 0);
            isAt(x, "it went on 9 ticks ago", 1, WAITING, 1, 0);
            x.tick(1);
            isAt(x, "it went on 10 ticks ago", 1, ON_WIRE, 1, 0);
        }
    }

    /** A CUP goes down at the TICK told last, another one has been SENT the TICK ahead; a third follows down, or up. */
    private static void promise16onlyOneMayOnASingleWire() {
        FlyingChange x = oneWire(20, 1, false, 3);
        x.clerk(1);
        sendAll(x, 0);
        x.tick(21);
        sendAll(x, 1);
        x.cord(1, false);
        x.tick(1);
        isAt(x, "it is done, and waits for the broken wire", 0, WAITING, 0, 22);
        x.cord(1, true);
        x.tick(1);
        isAt(x, "the lesser stamp goes up", 1, ON_WIRE, 1, 0);
        sendAll(x, 2);
        x.tick(1);
        isAt(x, "the greater stamp goes up, as the lesser may not go down", 2, ON_WIRE, 1, 0);
        isAt(x, "the lesser stamp waits", 0, WAITING, 0, 22);
        x.tick(19);
        isAt(x, "the wire is not empty", 0, WAITING, 0, 22);
        x.tick(1);
        isAt(x, "the wire is empty", 0, ON_WIRE, 1, 0);
        FlyingChange y = bothDone(20, 2, false);
        y.cup(1);
        sendAll(y, 2);
        y.tick(1);
        isAt(y, "none may go: up", 2, WAITING, 1, 63);
        isAt(y, "none may go: down", 1, WAITING, 0, 63);
        y.tick(1);
        isAt(y, "of like stamps that which goes down, as the other may not go up", 1, ON_WIRE, 1, 0);
        isAt(y, "that which would go up", 2, WAITING, 1, 63);
        y.tick(19);
        isAt(y, "the wire is not empty", 2, WAITING, 1, 63);
        y.tick(1);
        isAt(y, "the wire is empty, and the gap is long ago", 2, ON_WIRE, 1, 0);
    }

    private static void promise16ticksOneByOne() {
        FlyingChange x = oneByOne();
        FlyingChange y = oneByOne();
        x.tick(60);
        for (int i = 0; i < 60; i++) {
            y.tick(1);
        }
        for (int cup = 0; cup < 5; cup++) {
            for (int what = 0; what <= 8; what++) {
                Due.is("60 at once: cupAt(" + cup + ", " + what + ")", x.cupAt(cup, what), y.cupAt(cup, what));
            }
        }
        for (int what = 0; what <= 7; what++) {
            Due.is("60 at once: total(" + what + ")", x.total(what), y.total(what));
        }
        int bells = y.bells();
        Due.is("60 at once: bells()", x.bells(), bells);
        for (int i = 0; i < bells; i++) {
            Due.is("60 at once: bell(" + i + ", true)", x.bell(i, true), y.bell(i, true));
        }
    }

    private static FlyingChange oneByOne() {
        FlyingChange x = new FlyingChange();
        x.post(0, false, 3, 2, false);
        x.post(1, true, 4, 3, true);
        x.post(1, true, 2, 1, false);
        x.joint(1, 1, 2);
        x.joint(1, 0, 2);
        for (int i = 0; i < 5; i++) {
            x.cup(2 + i % 2);
            x.send(i, 1 + i, 2, 1);
        }
        x.clerk(3);
        x.fetch(0, 9, 30);
        return x;
    }

    // ---- clerks and sales

    private static void promise16clerksNeed() {
        for (int needs = 1; needs <= 30; needs++) {
            FlyingChange x = oneWire(1, 1, true, 2);
            x.clerk(needs);
            sendAll(x, 0, 1);
            x.tick(2);
            isAt(x, "taken", 0, WITH_CLERK, 0, needs);
            if (needs > 1) {
                x.tick(needs - 1);
                isAt(x, "a tick too early", 0, WITH_CLERK, 0, 1);
            }
            x.tick(1);
            isAt(x, "done, and on its way", 0, ON_WIRE, 1, 0);
            isAt(x, "the next is taken in that tick", 1, WITH_CLERK, 0, needs);
        }
    }

    /** CUP 0 of 2 is STRAY at 3 with the SALE that is told; the CLERK needs 1 tick. */
    private static FlyingChange strayWith(int price, int kind, int n) {
        FlyingChange x = new FlyingChange();
        x.post(0, false, 1, 1, true);
        x.post(1, true, 1, 1, true);
        x.post(1, true, 1, 1, true);
        x.cup(2);
        x.clerk(1);
        sendAll(x, 0);
        x.joint(1, 1, 2);
        x.tick(6);
        x.drawer(0, 2);
        x.send(0, price, kind, n);
        x.tick(6);
        return x;
    }

    private static void promise16salesAreAskedOnce() {
        FlyingChange x = strayWith(5, 2, 1);
        isAt(x, "with its change", 0, STRAY, 3, NONE);
        Due.is("answered", x.cupAt(0, 6), 2);
        Due.is("its change", x.coins(0, 0), 1);
        Due.is("the drawer", x.till(6), 7);
        Due.is("resent", x.resend(0), 3);
        x.tick(5);
        isAt(x, "it has been with the clerk again", 0, ON_WIRE, 2, 0);
        Due.is("answered still", x.cupAt(0, 6), 2);
        Due.is("its change is in it", x.coins(0, 6), 1);
        Due.is("the drawer is as it was", x.till(6), 7);
        FlyingChange y = strayWith(1, 2, 1);
        Due.is("refused", y.cupAt(0, 6), 3);
        Due.is("what came is in it", y.coins(0, 2), 1);
        y.drawer(0, 1000);
        y.resend(0);
        y.tick(5);
        Due.is("refused still, though it could be given", y.cupAt(0, 6), 3);
        Due.is("what came is in it still", y.coins(0, 2), 1);
        Due.is("and all in the drawer", y.till(6), 1000);
        y.tick(1);
        isAt(y, "home", 0, HOME, 2, NONE);
        Due.is("two are done with", y.waits(2, 0), 2);
        Due.is("one is refused", y.waits(2, 1), 1);
    }

    private static void promise16changeOfNothing() {
        FlyingChange x = oneWire(1, 1, true, 2);
        x.clerk(1);
        x.send(0, 60, 5, 1);
        x.send(1, 59, 5, 1);
        x.tick(3);
        Due.is("no change is due: answered", x.cupAt(0, 6), 2);
        Due.is("it is empty", x.coins(0, 6), 0);
        Due.is("the drawer has it", x.till(5), 1);
        x.tick(1);
        Due.is("one is due, none is there: refused", x.cupAt(1, 6), 3);
        Due.is("what came is in it", x.coins(1, 5), 1);
        Due.is("the drawer has no more", x.till(5), 1);
    }

    private static void promise16fetchedForTheNext() {
        for (int late = 0; late < 2; late++) {
            FlyingChange x = oneWire(1, 1, true, 1);
            x.clerk(5);
            x.send(0, 2, 1, 1);
            x.fetch(0, 1, 6 + late);
            x.tick(7);
            Due.is("there a tick ahead of him, or at his tick", x.cupAt(0, 6), late == 0 ? 2 : 3);
            Due.is("of ones in the drawer", x.till(0), late);
        }
    }

    private static void promise16fetchedInAnyOrder() {
        int[][] dues = {{1, 2, 1}, {2, 1, 2}, {1, 3, 2, 1, 3, 2}, {3, 1, 3, 2, 2, 1}, {2, 2, 1, 1, 3, 3}};
        for (int[] due : dues) {
            FlyingChange x = new FlyingChange();
            int[] kinds = new int[6];
            for (int i = 0; i < due.length; i++) {
                Due.is("fetch " + i, x.fetch(i, 10 + i, due[i]), due[i]);
            }
            for (int t = 1; t <= 4; t++) {
                x.tick(1);
                for (int i = 0; i < due.length; i++) {
                    kinds[i] += due[i] == t ? 10 + i : 0;
                    Due.is("at " + t + ": till(" + i + ")", x.till(i), kinds[i]);
                }
            }
            for (int i = 0; i < 20; i++) {
                Due.is("all are there, so that 20 may be fetched", x.fetch(0, 1, 1), 5);
            }
        }
    }

    // ---- porters

    /** JOINT 1 (LENGTH 2); COUNTERS 2 (3), 3 (5) and JOINT 4 (7) on it, COUNTER 5 (11) on that; CUP 0 of 2. */
    private static FlyingChange lengths() {
        FlyingChange x = new FlyingChange();
        x.post(0, false, 2, 1, true);
        x.post(1, true, 3, 1, true);
        x.post(1, true, 5, 1, true);
        x.post(1, false, 7, 1, true);
        x.post(4, true, 11, 1, true);
        x.cup(2);
        x.cup(3);
        x.clerk(1);
        return x;
    }

    private static void isBrought(FlyingChange x, String when, int cup, int ticks) {
        int from = x.total(2);
        Due.is(when, x.porter(cup), from + ticks);
        if (ticks > 1) {
            x.tick(ticks - 1);
            isAt(x, when + ", a tick too early", cup, WITH_PORTER, NONE, from + ticks);
        }
        x.tick(1);
        isAt(x, when + ", there", cup, HOME, x.cupAt(cup, 5), NONE);
    }

    private static void promise13porterWays() {
        FlyingChange x = lengths();
        sendAll(x, 0);
        x.tick(1);
        x.cord(2, false);
        isBrought(x, "on its own wire", 0, 1);
        x.cord(2, true);
        sendAll(x, 0);
        x.tick(4);
        x.cord(1, false);
        isBrought(x, "on wire 1, up: 3 of length", 0, 9);
        x.cord(1, true);
        sendAll(x, 0);
        x.tick(7);
        x.cord(1, false);
        Due.is("on wire 1, down", x.cupAt(0, 3), 0);
        isBrought(x, "on wire 1, down: 3 of length", 0, 9);
        x.cord(1, true);
        sendAll(x, 0);
        x.tick(11);
        x.cord(2, false);
        Due.is("on its own wire, down", x.cupAt(0, 3), 0);
        isBrought(x, "on its own wire, down", 0, 1);
        FlyingChange y = thrown(0, 10);
        y.cord(3, false);
        isBrought(y, "on wire 3: 5 and 3 of length", 0, 24);
        y = thrown(0, 30);
        isBrought(y, "stray at 3: 5 and 3 of length", 0, 24);
        y = thrown(1, 12);
        y.cord(4, false);
        isBrought(y, "on wire 4: 7 and 5 of length", 1, 36);
        y = thrown(1, 22);
        y.cord(5, false);
        isBrought(y, "on wire 5: 11 and 7 and 5 of length", 1, 69);
        y = thrown(1, 60);
        isBrought(y, "stray at 5: 11 and 7 and 5 of length", 1, 69);
    }

    /** A CUP that JOINT 1 has thrown the wrong way, so many ticks after it was SENT. */
    private static FlyingChange thrown(int cup, int ticks) {
        FlyingChange x = lengths();
        sendAll(x, cup);
        x.tick(20);
        x.joint(1, 1, 2);
        sendAll(x, cup);
        x.tick(20);
        sendAll(x, cup);
        x.tick(ticks);
        return x;
    }

    /**
     * JOINTS 1 (LENGTH 2), and 2 (3) and 3 (7) on it; COUNTERS 4 (5) on 2, 5 (11) on 3 and 6 (13) on 1. A CUP of 4 or 6
     * was SENT so many ticks ago, and JOINT 1 throws it the wrong way, or not.
     */
    private static FlyingChange deep(int home, boolean wrong, int ticks) {
        FlyingChange x = new FlyingChange();
        x.post(0, false, 2, 1, true);
        x.post(1, false, 3, 1, true);
        x.post(1, false, 7, 1, true);
        x.post(2, true, 5, 1, true);
        x.post(3, true, 11, 1, true);
        x.post(1, true, 13, 1, true);
        x.cup(home);
        x.clerk(1);
        if (wrong) {
            x.joint(1, 1, 2);
        }
        sendAll(x, 0);
        x.tick(60);
        isAt(x, "the first goes the right way", 0, HOME, home, NONE);
        sendAll(x, 0);
        x.tick(ticks);
        return x;
    }

    private static void isBroughtFrom(FlyingChange x, int wire, boolean up, int ticks) {
        isAt(x, "on wire " + wire, 0, ON_WIRE, wire, x.cupAt(0, 2));
        Due.is("on wire " + wire + ", up", x.cupAt(0, 3), up ? 1 : 0);
        x.cord(wire, false);
        isBrought(x, "from wire " + wire, 0, ticks);
    }

    private static void promise13porterToADeepHome() {
        isBroughtFrom(deep(4, false, 5), 4, true, 1);
        isBroughtFrom(deep(4, false, 7), 2, true, 15);
        isBroughtFrom(deep(4, false, 10), 1, true, 24);
        isBroughtFrom(deep(4, false, 13), 1, false, 24);
        isBroughtFrom(deep(4, false, 15), 2, false, 15);
        isBroughtFrom(deep(4, false, 20), 4, false, 1);
        isBroughtFrom(deep(4, true, 15), 3, false, 45);
        isBroughtFrom(deep(4, true, 25), 5, false, 78);
        isBroughtFrom(deep(6, true, 20), 2, false, 48);
        isBroughtFrom(deep(6, true, 24), 4, false, 63);
        FlyingChange x = deep(4, true, 50);
        isAt(x, "a stray", 0, STRAY, 5, NONE);
        isBrought(x, "a stray at 5", 0, 78);
        FlyingChange y = deep(6, true, 50);
        isAt(y, "a stray", 0, STRAY, 4, NONE);
        isBrought(y, "a stray at 4", 0, 63);
    }

    /** COUNTERS 1, 2, 3; JOINT 4 (LENGTH 9), JOINT 5 (7) on it, and on that COUNTERS 6 (2) and 7 (5), JOINT 8 (3), COUNTER 9 (1). */
    private static void promise13porterTurnsAtALowJoint() {
        int[] stands = {7, 9};
        int[] ticks = {3 * (5 + 2), 3 * (1 + 3 + 5)};
        for (int i = 0; i < 2; i++) {
            FlyingChange x = new FlyingChange();
            for (int post = 1; post <= 3; post++) {
                x.post(0, true, 1, 1, true);
            }
            x.post(0, false, 9, 1, true);
            x.post(4, false, 7, 1, true);
            x.post(5, true, 2, 1, true);
            x.post(5, true, 5, 1, true);
            x.post(5, false, 3, 1, true);
            x.post(8, true, 1, 1, true);
            x.cup(6 + i);
            x.clerk(1);
            x.joint(5, 1, 2);
            sendAll(x, 0);
            x.tick(60);
            isAt(x, "the first goes the right way", 0, HOME, 6 + i, NONE);
            sendAll(x, 0);
            x.tick(60);
            isAt(x, "the second does not", 0, STRAY, stands[i], NONE);
            isBrought(x, "by joint 5, and no nearer to the cage", 0, ticks[i]);
        }
    }

    private static void promise13porterTakesNoOther() {
        FlyingChange x = lengths();
        Due.is("home", x.porter(0), STATE);
        sendAll(x, 0);
        x.cord(2, false);
        Due.is("waiting at its home, for a broken wire", x.porter(0), STATE);
        x.cord(2, true);
        x.tick(1);
        Due.is("on a whole wire", x.porter(0), STATE);
        x.cord(1, false);
        Due.is("on a whole wire, while another is broken", x.porter(0), STATE);
        x.tick(3);
        isAt(x, "at the joint", 0, WAITING, 1, 4);
        Due.is("waiting at a joint to go up, for a broken wire", x.porter(0), STATE);
        x.cord(1, true);
        x.tick(3);
        isAt(x, "with the clerk", 0, WITH_CLERK, 0, 1);
        x.cord(1, false);
        Due.is("with a clerk", x.porter(0), STATE);
        x.tick(1);
        isAt(x, "in the cage", 0, WAITING, 0, 8);
        Due.is("waiting in the cage, for a broken wire", x.porter(0), STATE);
        x.cord(1, true);
        x.cord(2, false);
        x.tick(3);
        isAt(x, "at the joint again", 0, WAITING, 1, 11);
        Due.is("waiting at a joint to go down, for a broken wire", x.porter(0), STATE);
        x.cord(2, true);
        x.tick(1);
        Due.is("on a whole wire down", x.porter(0), STATE);
        x.cord(2, false);
        Due.is("on a broken wire", x.porter(0), 13);
        Due.is("with a porter", x.porter(0), STATE);
        FlyingChange y = oneWire(1, 1, true, 1);
        sendAll(y, 0);
        y.tick(3);
        isAt(y, "in the row", 0, IN_ROW, NONE, 2);
        Due.is("in the row", y.porter(0), STATE);
        y.cord(1, false);
        Due.is("in the row, while the wire is broken", y.porter(0), STATE);
    }

    private static void promise13porterIsThere() {
        FlyingChange x = oneWire(4, 1, false, 1);
        x.send(0, 5, 2, 1);
        x.tick(2);
        x.cord(1, false);
        x.porter(0);
        Due.is("its coins are in it", x.coins(0, 6), 6);
        Due.is("its sale is open", x.cupAt(0, 6), 1);
        x.cord(1, true);
        x.tick(1);
        Due.is("its coins are handed out", x.coins(0, 6), 0);
        Due.is("to its counter", x.waits(1, 4), 6);
        Due.is("its sale is done with", x.waits(1, 0), 1);
        Due.is("it has none", x.cupAt(0, 6), 0);
        Due.is("its wait", x.waits(1, 2), 3);
        Due.is("it may be sent at once", x.send(0, 6, 2, 1), 0);
    }

    // ---- change

    private static void promise21likeChange() {
        areGiven(drawerOf(0, 2, 0, 3, 1, 0), 36, 0, 2, 0, 0, 1, 0);
        areGiven(drawerOf(0, 2, 0, 3, 1, 1), 96, 0, 2, 0, 0, 1, 1);
        areGiven(drawerOf(0, 2, 0, 4, 1, 0), 48, 0, 2, 0, 1, 1, 0);
        areGiven(drawerOf(3, 1, 0, 4, 1, 0), 48, 0, 0, 0, 4, 0, 0);
        areGiven(drawerOf(0, 0, 0, 5, 1, 0), 60, 0, 0, 0, 5, 0, 0);
        areGiven(drawerOf(0, 0, 0, 5, 2, 0), 60, 0, 0, 0, 0, 2, 0);
        areGiven(drawerOf(0, 0, 0, 5, 2, 1), 60, 0, 0, 0, 0, 0, 1);
        areGiven(drawerOf(0, 0, 0, 3, 1, 1), 66, 0, 0, 0, 3, 1, 0);
        areGiven(drawerOf(0, 2, 0, 3, 1, 1), 66, 0, 2, 0, 0, 0, 1);
        areGiven(drawerOf(1000, 1000, 1000, 1000, 1000, 0), 3000, 0, 0, 0, 0, 100, 0);
        areGiven(drawerOf(1000, 1000, 0, 0, 0, 0), 3000, 0, 1000, 0, 0, 0, 0);
        areGiven(drawerOf(1000, 667, 0, 0, 0, 0), 3000, 999, 667, 0, 0, 0, 0);
        Due.is("36 lie there beside a 30, and 6 can't be given", drawerOf(0, 0, 0, 3, 1, 0).could(6), NONE);
        Due.is("nor 6 beside a 60", drawerOf(0, 0, 0, 3, 1, 1).could(6), NONE);
        Due.is("nor 66 less 60", drawerOf(0, 0, 0, 3, 1, 0).gives(6, 5), NONE);
        Due.is("one less", drawerOf(998, 667, 0, 0, 0, 0).could(3000), NONE);
        Due.is("just so many", drawerOf(999, 667, 0, 0, 0, 0).could(3000), 1666);
    }

    private static final int[] WORTH = {1, 3, 6, 12, 30, 60};

    /** The fewest coins, of like ones by the most of the greatest KIND: all counts are tried, from the most on. */
    private static int[] fewest(int[] lying, int amount, int kind) {
        if (kind < 0) {
            return amount == 0 ? new int[7] : null;
        }
        int[] best = null;
        for (int n = Math.min(lying[kind], amount / WORTH[kind]); n >= 0; n--) {
            int[] rest = fewest(lying, amount - n * WORTH[kind], kind - 1);
            if (rest != null && (best == null || rest[6] + n < best[6])) {
                best = rest;
                best[kind] = n;
                best[6] += n;
            }
        }
        return best;
    }

    private static void promise20couldOfEachAmount() {
        int[][] drawers = {{0, 0, 0, 3, 1, 0}, {0, 0, 0, 3, 1, 1}, {0, 0, 0, 7, 3, 2}, {2, 2, 2, 2, 2, 2}, {5, 0, 1, 4, 1, 0},
            {0, 2, 0, 9, 1, 1}, {1, 0, 3, 0, 2, 1}, {0, 0, 5, 0, 1, 2}, {9, 1, 0, 0, 3, 1}, {0, 0, 0, 0, 0, 3}};
        for (int[] lying : drawers) {
            FlyingChange x = drawerOf(lying);
            FlyingChange y = drawerOf(lying);
            for (int amount = 0; amount <= 240; amount++) {
                int[] due = fewest(lying, amount, 5);
                Due.is("could(" + amount + ")", x.could(amount), due == null ? NONE : due[6]);
                int kind = 3 + amount % 3;
                Due.is("gives(" + amount + ", " + kind + ")", x.gives(amount, kind), due == null ? NONE : due[kind]);
                Due.is("gives(" + amount + ", " + (kind - 3) + ")", y.gives(amount, kind - 3), due == null ? NONE : due[kind - 3]);
            }
        }
    }

    private static void promise20couldOfTheDrawerAlone() {
        FlyingChange x = oneWire(1, 1, true, 2);
        x.drawer(1, 2);
        x.fetch(2, 1, 9);
        x.send(0, 1, 0, 4);
        x.send(1, 1, 3, 1);
        for (int t = 0; t < 6; t++) {
            Due.is("nothing of a cup, nor what is fetched, at " + t, x.could(6), 2);
            Due.is("they are of kind 1", x.gives(6, 1), 2);
            Due.is("no ones", x.could(7), NONE);
            Due.is("no ones to give", x.gives(1, 0), NONE);
            Due.is("in the drawer", x.till(6), 6);
            if (t == 2) {
                x.clerk(30);
                x.clerk(30);
            }
            x.tick(1);
        }
        isAt(x, "with a clerk", 0, WITH_CLERK, 0, 27);
    }

    // ---- waits and orders

    private static void promise23greatestWait() {
        FlyingChange x = oneWire(1, 1, true, 2);
        Due.is("none is done with", x.waits(1, 2), NONE);
        x.clerk(1);
        sendAll(x, 0);
        x.tick(3);
        Due.is("a tick ahead, none", x.waits(1, 2), NONE);
        Due.is("a tick ahead, together", x.waits(1, 3), 0);
        x.tick(1);
        Due.is("the first", x.waits(1, 2), 4);
        sendAll(x, 0, 1);
        x.tick(5);
        Due.is("the greater", x.waits(1, 2), 5);
        Due.is("together", x.waits(1, 3), 13);
        sendAll(x, 0);
        x.tick(4);
        Due.is("a lesser one", x.waits(1, 2), 5);
        Due.is("together with it", x.waits(1, 3), 17);
        Due.is("four are done with", x.waits(1, 0), 4);
    }

    private static void promise24leastClerk() {
        FlyingChange x = oneWire(1, 1, true, 2);
        sendAll(x, 0, 1);
        x.tick(9);
        x.clerk(5);
        x.clerk(3);
        Due.is("of like ones the least clerk: 9 + 5, 9 + 3", x.worst(), 14);
        Due.is("by cups", x.best(0), 0);
        FlyingChange y = oneWire(1, 1, true, 2);
        y.clerk(4);
        sendAll(y, 0);
        y.tick(3);
        sendAll(y, 1);
        y.tick(2);
        y.clerk(9);
        Due.is("he has one for a tick more", y.clerkAt(0, 1), 1);
        Due.is("the idle one is free at once: 2 + 9, though the other would be sooner", y.worst(), 11);
        FlyingChange z = oneWire(1, 1, true, 1);
        z.clerk(30);
        sendAll(z, 0);
        z.tick(2);
        Due.is("none is in the row, all with clerks", z.worst(), NONE);
    }

    // ---- bells

    private static void promise33ringsOnceForEach() {
        FlyingChange x = threeCounters();
        sendAll(x, 0, 1, 2);
        x.tick(2);
        Due.is("once for each of three", x.bells(), 3);
        for (int i = 0; i < 3; i++) {
            Due.is("of joint 1", x.bell(i, false), 1);
            Due.is("at 2", x.bell(i, true), 2);
        }
        x.tick(20);
        Due.is("and on their ways down", x.bells(), 6);
        x.joint(1, 2, 1);
        sendAll(x, 0, 1, 2);
        x.tick(20);
        Due.is("silent", x.bells(), 6);
        x.joint(1, 2, 0);
        sendAll(x, 0);
        x.tick(2);
        Due.is("not silent", x.bells(), 7);
        x.joint(1, 2, 1);
        x.tick(20);
        Due.is("silent on its way down", x.bells(), 7);
        x.joint(1, 2, 0);
        sendAll(x, 0);
        x.tick(1);
        x.cord(2, false);
        x.porter(0);
        x.tick(1);
        isAt(x, "a porter has brought it", 0, HOME, 2, NONE);
        Due.is("a porter rings none", x.bells(), 7);
    }

    /** JOINT 1 (LENGTH 3) with COUNTERS 2 (LENGTH 4) and 3 (LENGTH 1); CUP 1 of 3 rings at a TICK, CUP 0 of 2 does not come. */
    private static FlyingChange rungAt(int tick, int sentAt) {
        FlyingChange x = new FlyingChange();
        x.post(0, false, 3, 1, true);
        x.post(1, true, 4, 1, true);
        x.post(1, true, 1, 1, true);
        x.cup(2);
        x.cup(3);
        x.cord(2, false);
        for (int t = 0; t < tick; t++) {
            if (t == sentAt) {
                x.send(0, 1, 0, 1);
            }
            if (t == tick - 2) {
                x.send(1, 1, 0, 1);
            }
            x.tick(1);
        }
        Due.is("it rang", x.bell(0, true), tick);
        return x;
    }

    private static void promise35leastTicks() {
        for (int rings = 2; rings <= 9; rings++) {
            for (int sentAt = 0; sentAt < 2; sentAt++) {
                FlyingChange x = rungAt(rings, sentAt);
                boolean may = rings >= sentAt + 4;
                Due.is("sent at " + sentAt + ", it rang at " + rings + ": mayBe(0)", x.mayBe(0), may ? 1 : 0);
                x.tick(2);
                Due.is("2 ticks later: mayBe(0)", x.mayBe(0), may ? 1 : 0);
                x.tick(1);
                Due.is("3 ticks later: mayBe(0)", x.mayBe(0), may ? 2 : 0);
            }
        }
    }

    private static void promise35whereverItIs() {
        FlyingChange x = strayWith(5, 2, 1);
        isAt(x, "a stray", 0, STRAY, 3, NONE);
        Due.is("a stray: mayBe(0)", x.mayBe(0), 2);
        x.porter(0);
        Due.is("with a porter: mayBe(0)", x.mayBe(0), 2);
        x.tick(6);
        Due.is("home: mayBe(0)", x.mayBe(0), STATE);
        sendAll(x, 0);
        Due.is("sent anew: mayBe(0)", x.mayBe(0), 0);
        x.tick(2);
        Due.is("it rang anew: mayBe(0)", x.mayBe(0), 1);
    }

    private static void promise35noneBehindTheTick() {
        FlyingChange x = new FlyingChange();
        x.post(0, false, 3, 1, true);
        x.post(1, false, 5, 1, true);
        x.post(2, true, 4, 1, true);
        x.cup(3);
        x.cord(3, false);
        x.joint(1, 2, 1);
        x.joint(2, 2, 1);
        x.send(0, 1, 0, 1);
        for (int t = 0; t < 15; t++) {
            Due.is("all are silent, at " + t + ": mayBe(0)", x.mayBe(0), t < 4 ? 0 : t < 9 ? 1 : t < 12 ? 2 : 3);
            x.tick(1);
        }
        x.joint(1, 2, 0);
        Due.is("1 did not ring", x.mayBe(0), 1);
        x.joint(2, 2, 0);
        Due.is("2 did not ring", x.mayBe(0), 0);
        FlyingChange y = oneWire(3, 1, true, 1);
        y.cord(1, false);
        sendAll(y, 0);
        for (int t = 0; t < 5; t++) {
            Due.is("there is no joint, at " + t + ": mayBe(0)", y.mayBe(0), t < 3 ? 0 : 1);
            y.tick(1);
        }
    }

    /** JOINT 1, at LENGTH 1 of CUP 0's HOME and 4 of THE CAGE, rings at each of 2 .. 11 for another CUP. */
    private static void promise35silentJointIsNotHeard() {
        FlyingChange x = new FlyingChange();
        x.post(0, false, 4, 1, true);
        x.post(1, true, 1, 1, true);
        x.post(1, true, 1, 1, true);
        x.cup(2);
        for (int cup = 1; cup <= 10; cup++) {
            x.cup(3);
        }
        x.cord(2, false);
        x.tick(3);
        sendAll(x, 0);
        for (int cup = 1; cup <= 10; cup++) {
            sendAll(x, cup);
        }
        x.joint(1, 2, 1);
        x.tick(3);
        Due.is("silent: no bells", x.bells(), 0);
        x.joint(1, 2, 0);
        x.tick(2);
        Due.is("two bells", x.bells(), 2);
        Due.is("heard at 7, so not yet at the cage", x.mayBe(0), 1);
        x.joint(1, 2, 1);
        Due.is("silent now: it may have come at 4, and to the cage at 8", x.mayBe(0), 2);
        x.joint(1, 2, 0);
        x.tick(2);
        Due.is("heard at 7: not to the cage at 10", x.mayBe(0), 1);
        x.tick(1);
        Due.is("heard at 7: to the cage at 11", x.mayBe(0), 2);
    }

    /** JOINT 1 (LENGTH 5) rings late for another CUP; JOINT 2 (LENGTH 2) on it rang early for CUP 0 of 3, which stands behind it. */
    private static void promise35lateBellOfAHighJoint() {
        FlyingChange x = new FlyingChange();
        x.post(0, false, 5, 1, true);
        x.post(1, false, 2, 1, true);
        x.post(2, true, 1, 1, true);
        x.post(1, true, 1, 1, true);
        x.cup(3);
        x.cup(4);
        sendAll(x, 0);
        x.tick(2);
        Due.is("2 rang", x.mayBe(0), 1);
        x.cord(2, false);
        x.tick(16);
        Due.is("1 did not ring", x.mayBe(0), 1);
        sendAll(x, 1);
        x.tick(2);
        Due.is("1 rang at 20", x.bell(1, true), 20);
        for (int t = 20; t < 27; t++) {
            Due.is("at " + t + ": mayBe(0)", x.mayBe(0), t < 25 ? 2 : 3);
            x.tick(1);
        }
        x.joint(2, 2, 1);
        Due.is("2 is silent", x.mayBe(0), 3);
        x.joint(1, 2, 1);
        x.joint(2, 2, 0);
        Due.is("2 rang at 2, and 1 is silent", x.mayBe(0), 3);
    }
}
