/** The ends of a CATCH: who goes first at a JOINT, and where one that is WORN throws a CUP. */
public final class CatchTest extends Shops {
    public static void main(String[] args) {
        promise16firstAtACatch();
        promise16nearAtACatch();
        promise16turnAtACatch();
        promise16turnOfOneChild();
        promise16cameFromIsNotHome();
        promise16turnBehindOtherCatches();
        promise16turnOfANewChild();
        promise16turnOfEachJoint();
        promise16wornByEach();
        promise16wornAnew();
        promise16wornNotAnew();
        promise16toldWhileOneIsOnTheWire();
        promise16wornNextChildByNumber();
        promise16wornWithoutARightChild();
        promise16jointWithoutChildren();
        promise16leastChildIsAJoint();
        promise16rightChildOfADeepHome();
        Due.end();
    }

    // ---- who goes first

    /** As joint() makes it, but WIRE 1 is BROKEN, so that all wait at JOINT 1. */
    private static FlyingChange catching(int latch, int... homes) {
        FlyingChange x = joint(1, latch, homes);
        x.cord(1, false);
        return x;
    }

    private static void comeInTurn(FlyingChange x, String when, int... cups) {
        x.cord(1, true);
        x.tick(cups.length + 1);
        for (int i = 0; i < cups.length; i++) {
            Due.is(when + ": row(" + i + ")", x.row(i), cups[i]);
        }
        Due.is(when + ": no more", x.row(cups.length), NONE);
    }

    private static void promise16firstAtACatch() {
        FlyingChange x = catching(0, 4, 3, 2);
        sendAll(x, 0, 1, 2);
        x.tick(2);
        comeInTurn(x, "first, like stamps: by cup, from whatever child", 0, 1, 2);
        FlyingChange y = catching(0, 2, 3, 4);
        for (int cup = 2; cup >= 0; cup--) {
            sendAll(y, cup);
            y.tick(1);
        }
        y.tick(1);
        comeInTurn(y, "first: the least stamp, though the cup is greater", 2, 1, 0);
    }

    private static void promise16nearAtACatch() {
        FlyingChange x = catching(1, 4, 3, 2);
        sendAll(x, 0, 1, 2);
        x.tick(2);
        comeInTurn(x, "near, like stamps: by child", 2, 1, 0);
        FlyingChange y = catching(1, 2, 2, 2, 3);
        for (int cup = 3; cup >= 0; cup--) {
            sendAll(y, cup);
            y.tick(1);
        }
        y.tick(1);
        comeInTurn(y, "near: of one child the least stamp", 2, 1, 0, 3);
    }

    private static void promise16turnAtACatch() {
        FlyingChange x = catching(2, 4, 3, 2, 4, 3, 2);
        sendAll(x, 0, 1, 2, 3, 4, 5);
        x.tick(3);
        comeInTurn(x, "turn: from the least on, and round", 2, 1, 0, 5, 4, 3);
        FlyingChange y = catching(2, 3, 3, 2, 2);
        for (int cup = 3; cup >= 0; cup--) {
            sendAll(y, cup);
            y.tick(1);
        }
        y.tick(1);
        comeInTurn(y, "turn: of one child the least stamp", 3, 1, 2, 0);
    }

    private static void promise16turnOfOneChild() {
        FlyingChange x = catching(2, 3, 3, 3, 2, 4);
        sendAll(x, 0, 1, 2);
        x.tick(4);
        x.cord(1, true);
        x.tick(2);
        sendAll(x, 3, 4);
        x.tick(2);
        Due.is("that one itself, if none else waits: three have come", x.row(1), 1);
        x.tick(4);
        int[] due = {0, 1, 2, 4, 3};
        for (int i = 0; i < due.length; i++) {
            Due.is("turn: row(" + i + ")", x.row(i), due[i]);
        }
        FlyingChange y = catching(2, 4, 4, 2, 3);
        sendAll(y, 0);
        y.tick(2);
        y.cord(1, true);
        y.tick(1);
        y.cord(1, false);
        sendAll(y, 1, 2, 3);
        y.tick(2);
        comeInTurn(y, "behind the last child the least, that one itself last", 0, 2, 3, 1);
    }

    /** CUP 0 of 2 is STRAY at 4, is RESENT, and waits at 1 behind CUP 1 of 4; that from 5 went UP last. */
    private static void promise16cameFromIsNotHome() {
        for (int latch = 0; latch < 3; latch++) {
            FlyingChange x = new FlyingChange();
            x.post(0, false, 1, 1, true);
            x.post(1, true, 1, 1, true);
            x.post(0, true, 1, 1, true);
            x.post(1, true, 1, 1, true);
            x.post(1, true, 1, 1, true);
            x.cup(2);
            x.cup(4);
            x.clerk(1);
            x.joint(1, 1, 2);
            goes(x, "the first", 0, 2);
            sendAll(x, 0);
            x.tick(6);
            isAt(x, "the second", 0, STRAY, 4, NONE);
            x.joint(1, 1, 0);
            x.cup(5);
            x.joint(1, 0, latch);
            sendAll(x, 2);
            x.tick(2);
            x.cord(1, false);
            sendAll(x, 1);
            x.tick(1);
            x.resend(0);
            x.tick(3);
            isAt(x, "resent", 0, WAITING, 1, x.total(2) - 1);
            x.cord(1, true);
            x.tick(1);
            isAt(x, "of one child the least stamp, by catch " + latch, 1, ON_WIRE, 1, 0);
            isAt(x, "its home is no child from which it came", 0, WAITING, 1, x.total(2) - 2);
        }
    }

    private static void promise16turnBehindOtherCatches() {
        for (int latch = 0; latch < 2; latch++) {
            FlyingChange x = catching(latch, 2, 2, 3, 4);
            sendAll(x, 0);
            x.tick(2);
            x.cord(1, true);
            x.tick(1);
            x.cord(1, false);
            x.joint(1, 0, 2);
            sendAll(x, 1, 2, 3);
            x.tick(2);
            comeInTurn(x, "a cup went up last from 2, by catch " + latch, 0, 2, 3, 1);
        }
    }

    private static void promise16turnOfANewChild() {
        FlyingChange x = catching(2, 4, 2);
        sendAll(x, 0);
        x.tick(2);
        x.cord(1, true);
        x.tick(1);
        x.cord(1, false);
        Due.is("a new child", x.post(1, true, 1, 1, true), 5);
        x.cup(5);
        sendAll(x, 1, 2);
        x.tick(2);
        comeInTurn(x, "a new child is behind the last one", 0, 2, 1);
    }

    /** JOINTS 1 and 2 on THE CAGE, with COUNTERS 3, 4, 5 on 1 and 6, 7, 8 on 2; CUPS 0 .. 5 of these. */
    private static void promise16turnOfEachJoint() {
        FlyingChange x = new FlyingChange();
        for (int post = 1; post <= 8; post++) {
            x.post(post < 3 ? 0 : post < 6 ? 1 : 2, post >= 3, post < 3 ? 9 : 1, 1, true);
        }
        for (int cup = 0; cup < 6; cup++) {
            x.cup(3 + cup);
        }
        x.joint(1, 0, 2);
        x.joint(2, 0, 2);
        sendAll(x, 1);
        x.tick(1);
        sendAll(x, 5);
        x.tick(2);
        isAt(x, "from 4 at 1", 1, ON_WIRE, 1, 1);
        isAt(x, "then from 8 at 2", 5, ON_WIRE, 2, 0);
        sendAll(x, 0, 2, 3, 4);
        x.tick(2);
        isAt(x, "behind 4 is 5", 2, ON_WIRE, 1, 0);
        isAt(x, "and 3 waits", 0, WAITING, 1, 5);
        isAt(x, "behind 8 is 6", 3, ON_WIRE, 2, 0);
        isAt(x, "and 7 waits", 4, WAITING, 2, 5);
    }

    // ---- a worn catch

    private static void promise16wornByEach() {
        for (int w = 2; w <= 9; w++) {
            FlyingChange x = threeCounters();
            goes(x, "ahead of it", 0, 2);
            x.joint(1, 1, w);
            for (int i = 1; i <= 3 * w + 1; i++) {
                goes(x, "worn by " + w + ", cup " + i, 0, i % w == 0 ? 3 : 2);
            }
        }
    }

    private static void promise16wornAnew() {
        int[][] told = {{3, 3}, {4, 3}, {9, 3}, {0, 3}, {2, 3}};
        for (int[] t : told) {
            FlyingChange x = threeCounters();
            x.joint(1, 1, 3);
            goes(x, "the first", 0, 2);
            goes(x, "the second", 0, 2);
            x.joint(1, 1, t[0]);
            x.joint(1, 1, t[1]);
            goes(x, "told " + t[0] + ", then 3: the first anew", 0, 2);
            goes(x, "told " + t[0] + ", then 3: the second anew", 0, 2);
            goes(x, "told " + t[0] + ", then 3: the third anew", 0, 3);
        }
        FlyingChange x = threeCounters();
        x.joint(1, 1, 9);
        for (int i = 1; i <= 8; i++) {
            goes(x, "worn by 9", 0, 2);
        }
        x.joint(1, 1, 2);
        goes(x, "worn by 2 behind 8: the first", 0, 2);
        goes(x, "worn by 2 behind 8: the second", 0, 3);
        x.joint(1, 1, 0);
        for (int i = 1; i <= 9; i++) {
            goes(x, "not worn", 0, 2);
        }
        x.joint(1, 1, 2);
        goes(x, "not worn does not count: the first", 0, 2);
        goes(x, "not worn does not count: the second", 0, 3);
    }

    private static void promise16wornNotAnew() {
        FlyingChange x = threeCounters();
        x.post(0, false, 1, 1, true);
        x.joint(1, 1, 3);
        goes(x, "the first", 0, 2);
        x.joint(1, 0, 2);
        x.joint(1, 2, 1);
        x.joint(5, 1, 3);
        goes(x, "a catch, silence and another joint begin nothing anew: the second", 0, 2);
        x.joint(1, 1, 1);
        x.joint(1, 1, 10);
        x.joint(1, 1, -1);
        x.joint(1, 3, 3);
        x.post(1, true, 1, 1, true);
        x.cord(1, false);
        x.cord(1, true);
        goes(x, "nor what is refused, nor a new child: the third", 0, 3);
    }

    private static void promise16toldWhileOneIsOnTheWire() {
        FlyingChange x = threeCounters();
        x.post(0, true, 1, 1, true);
        sendAll(x, 0);
        x.tick(4);
        isAt(x, "on its way down", 0, ON_WIRE, 1, 0);
        x.joint(1, 1, 2);
        x.joint(1, 2, 1);
        x.tick(2);
        isAt(x, "the first that comes", 0, HOME, 2, NONE);
        Due.is("silent when it came", x.bells(), 1);
        sendAll(x, 0);
        x.tick(4);
        isAt(x, "on its way down again", 0, ON_WIRE, 1, 0);
        x.joint(1, 2, 0);
        x.tick(1);
        isAt(x, "the second that comes", 0, ON_WIRE, 3, 0);
        Due.is("not silent when it came", x.bells(), 2);
        FlyingChange y = threeCounters();
        y.joint(1, 1, 2);
        goes(y, "the first", 0, 2);
        sendAll(y, 0);
        y.tick(4);
        isAt(y, "on its way down", 0, ON_WIRE, 1, 0);
        y.joint(1, 1, 0);
        y.tick(2);
        isAt(y, "not worn when it came", 0, HOME, 2, NONE);
    }

    private static void promise16wornNextChildByNumber() {
        FlyingChange x = new FlyingChange();
        x.post(0, false, 1, 1, true);
        x.post(1, true, 1, 1, true);
        x.post(0, true, 1, 1, true);
        x.post(1, false, 1, 1, true);
        x.post(0, true, 1, 1, true);
        x.post(4, true, 1, 1, true);
        x.post(1, true, 1, 1, true);
        x.cup(2);
        x.cup(6);
        x.cup(7);
        x.clerk(1);
        x.joint(1, 1, 2);
        goes(x, "the first", 0, 2);
        sendAll(x, 1);
        x.tick(8);
        isAt(x, "behind the joint 4 is 7", 1, STRAY, 7, NONE);
        goes(x, "the third", 2, 7);
        goes(x, "behind 7 is the least, 2", 2, 2);
        goes(x, "the fifth", 2, 7);
        sendAll(x, 0);
        x.tick(7);
        isAt(x, "behind 2 is the joint 4, and so its child", 0, STRAY, 6, NONE);
    }

    /** JOINTS 1, and 2 on it, which COUNTERS 3, 4, 5 hang on; CUP 0 of COUNTER 6, on 1. */
    private static FlyingChange wrongBranch() {
        FlyingChange x = new FlyingChange();
        x.post(0, false, 1, 1, true);
        x.post(1, false, 1, 1, true);
        x.post(2, true, 1, 1, true);
        x.post(2, true, 1, 1, true);
        x.post(2, true, 1, 1, true);
        x.post(1, true, 1, 1, true);
        x.cup(6);
        x.clerk(1);
        return x;
    }

    private static void promise16wornWithoutARightChild() {
        FlyingChange x = wrongBranch();
        x.joint(1, 1, 2);
        x.joint(2, 1, 2);
        for (int way = 1; way <= 4; way++) {
            goes(x, "the right way", 0, 6);
            sendAll(x, 0);
            x.tick(7);
            isAt(x, "thrown to 2: the least child, the second time that behind it", 0, STRAY, way % 2 == 0 ? 4 : 3, NONE);
            x.porter(0);
            x.tick(9);
        }
    }

    private static void promise16jointWithoutChildren() {
        FlyingChange x = new FlyingChange();
        x.post(0, false, 1, 1, true);
        x.post(1, true, 1, 1, true);
        x.post(1, false, 1, 1, true);
        x.cup(2);
        x.clerk(1);
        x.joint(1, 1, 2);
        goes(x, "the first", 0, 2);
        sendAll(x, 0);
        x.tick(6);
        isAt(x, "at a joint without children", 0, WAITING, 3, 12);
        Due.is("it goes down", x.cupAt(0, 3), 0);
        Due.is("for none", x.cupAt(0, 4), NONE);
        x.tick(200);
        isAt(x, "it waits", 0, WAITING, 3, 12);
        Due.is("it rang there", x.bell(x.bells() - 1, false), 3);
        Due.is("till a porter takes it", x.porter(0), 212 + 6);
        x.tick(6);
        isAt(x, "home", 0, HOME, 2, NONE);
    }

    /** JOINT 2 on JOINT 1, with JOINT 3 and COUNTER 4 on it; COUNTER 5 on 3; COUNTER 6 on 1. */
    private static void promise16leastChildIsAJoint() {
        FlyingChange x = new FlyingChange();
        x.post(0, false, 1, 1, true);
        x.post(1, false, 1, 1, true);
        x.post(2, false, 1, 1, true);
        x.post(2, true, 1, 1, true);
        x.post(3, true, 1, 1, true);
        x.post(1, true, 1, 1, true);
        x.cup(6);
        x.clerk(1);
        x.joint(1, 1, 2);
        goes(x, "the first", 0, 6);
        sendAll(x, 0);
        x.tick(8);
        isAt(x, "thrown to 2, to its least child 3, to that one's least child 5", 0, STRAY, 5, NONE);
        x.porter(0);
        x.tick(20);
        x.joint(1, 1, 2);
        x.joint(2, 1, 2);
        goes(x, "the first", 0, 6);
        sendAll(x, 0);
        x.tick(8);
        isAt(x, "the first at 2", 0, STRAY, 5, NONE);
        x.porter(0);
        x.tick(20);
        goes(x, "the third", 0, 6);
        sendAll(x, 0);
        x.tick(7);
        isAt(x, "the second at 2: behind the joint 3 is 4", 0, STRAY, 4, NONE);
    }

    /** JOINTS 1, 3, 5, 7, one below the other, each with a COUNTER of a lesser number on it: 2, 4, 6, 8; COUNTER 9 on 7. */
    private static void promise16rightChildOfADeepHome() {
        FlyingChange x = new FlyingChange();
        x.post(0, false, 1, 1, true);
        for (int joint = 1; joint <= 5; joint += 2) {
            x.post(joint, true, 1, 1, true);
            x.post(joint, false, 1, 1, true);
        }
        x.post(7, true, 1, 1, true);
        x.post(7, true, 1, 1, true);
        x.cup(9);
        x.clerk(1);
        sendAll(x, 0);
        for (int wire : new int[] {9, 7, 5, 3, 1}) {
            x.tick(1);
            isAt(x, "up", 0, ON_WIRE, wire, 0);
        }
        x.tick(1);
        isAt(x, "in the cage", 0, WITH_CLERK, 0, 1);
        for (int wire : new int[] {1, 3, 5, 7, 9}) {
            x.tick(1);
            isAt(x, "down to its home, and to no lesser child", 0, ON_WIRE, wire, 0);
        }
        x.tick(1);
        isAt(x, "home", 0, HOME, 9, NONE);
    }
}
