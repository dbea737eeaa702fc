/** What the tests of a TICK's rules share: the document's numbers, small shops, and how they are looked at. */
abstract class Shops {
    static final int UNKNOWN = FlyingChange.UNKNOWN, OUTSIDE = FlyingChange.OUTSIDE, STATE = FlyingChange.STATE,
        FULL = FlyingChange.FULL, NONE = FlyingChange.NONE;
    /** WHERE a CUP is. */
    static final int HOME = 0, WAITING = 1, ON_WIRE = 2, IN_ROW = 3, WITH_CLERK = 4, STRAY = 5, WITH_PORTER = 6;

    /** COUNTER 1 on THE CAGE with so many CUPS. */
    static FlyingChange oneWire(int length, int gap, boolean both, int cups) {
        FlyingChange x = new FlyingChange();
        x.post(0, true, length, gap, both);
        for (int i = 0; i < cups; i++) {
            x.cup(1);
        }
        return x;
    }

    /** JOINT 1, whose WIRE is so long, with COUNTERS 2, 3, 4 at LENGTH 1; a CUP of each of the HOMES told. */
    static FlyingChange joint(int length, int catchOfIt, int... homes) {
        FlyingChange x = new FlyingChange();
        x.post(0, false, length, 1, true);
        for (int i = 0; i < 3; i++) {
            x.post(1, true, 1, 1, true);
        }
        x.joint(1, 0, catchOfIt);
        for (int home : homes) {
            x.cup(home);
        }
        return x;
    }

    /** JOINT 1 with COUNTERS 2, 3, 4 and a CUP of each; a way there and back takes 6 ticks. */
    static FlyingChange threeCounters() {
        FlyingChange x = joint(1, 0, 2, 3, 4);
        x.clerk(1);
        return x;
    }

    /**
     * So many JOINTS from 1 on, one below another, a COUNTER on the last, and a CUP of that, all of LENGTH 1: a way there
     * and back takes 4 ticks and 2 for each JOINT, and each JOINT rings twice.
     */
    static FlyingChange chain(int joints) {
        FlyingChange x = new FlyingChange();
        for (int i = 0; i <= joints; i++) {
            x.post(i, i == joints, 1, 1, true);
        }
        x.cup(joints + 1);
        x.clerk(1);
        return x;
    }

    /** So many coins of each KIND lie in THE DRAWER. */
    static FlyingChange drawerOf(int... coins) {
        FlyingChange x = new FlyingChange();
        for (int kind = 0; kind < coins.length; kind++) {
            x.drawer(kind, coins[kind]);
        }
        return x;
    }

    static void sendAll(FlyingChange x, int... cups) {
        for (int c : cups) {
            x.send(c, 1, 0, 1);
        }
    }

    static void isAt(FlyingChange x, String when, int cup, int where, int at) {
        String call = when + ", tick " + x.total(2) + ": cupAt(" + cup + ", ";
        Due.is(call + "0)", x.cupAt(cup, 0), where);
        Due.is(call + "1)", x.cupAt(cup, 1), at);
    }

    static void isAt(FlyingChange x, String when, int cup, int where, int at, int measure) {
        isAt(x, when, cup, where, at);
        Due.is(when + ", tick " + x.total(2) + ": cupAt(" + cup + ", 2)", x.cupAt(cup, 2), measure);
    }

    static void isRow(FlyingChange x, String when, int... cups) {
        for (int i = 0; i < cups.length; i++) {
            Due.is(when + ": row(" + i + ")", x.row(i), cups[i]);
        }
        Due.is(when + ": no more", x.row(cups.length), NONE);
    }

    /** They go on a WIRE in that order, one at each TICK from the next on. */
    static void goOnInTurn(FlyingChange x, String when, int wire, int... cups) {
        for (int cup : cups) {
            x.tick(1);
            isAt(x, when, cup, ON_WIRE, wire, 0);
        }
    }

    /** A CUP is SENT, comes down where it is told, and is HOME again by a PORTER, if that is not its HOME. */
    static void goes(FlyingChange x, String when, int cup, int to) {
        sendAll(x, cup);
        x.tick(6);
        int home = x.cupAt(cup, 5);
        isAt(x, when, cup, to == home ? HOME : STRAY, to, NONE);
        if (to != home) {
            x.porter(cup);
            x.tick(6);
        }
    }

    /** What is given of an amount, KIND by KIND, and by how many coins. */
    static void areGiven(FlyingChange x, int amount, int... due) {
        int sum = 0;
        for (int kind = 0; kind < due.length; kind++) {
            Due.is("gives(" + amount + ", " + kind + ")", x.gives(amount, kind), due[kind]);
            sum = due[kind] == NONE ? NONE : sum + due[kind];
        }
        Due.is("could(" + amount + ")", x.could(amount), sum);
    }
}
