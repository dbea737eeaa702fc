/** Who is next, where another rule would tell another one: in THE ROW, at a COUNTER, at a CATCH, on the way down. */
public final class NextTest extends Shops {
    public static void main(String[] args) {
        promise16firstOfLikeStamps();
        promise16oldestOfLikeOnes();
        promise16nearIsTheLeastHome();
        promise16stampOfTheFirstTick();
        promise16turnWaitsForTheGap();
        promise16turnIsWhereItCameFrom();
        promise16turnOfTheWayDown();
        promise16turnOfABrokenChild();
        promise16downFromTheCage();
        promise16downFromAJoint();
        promise16thrownToABrokenWire();
        promise16leastChildOfNoHome();
        promise16nextChildIsANewOne();
        promise2newJointIsAsAtFirst();
        promise5brokenWiresRefuseNothing();
        promise3jointsAreToldOneByOne();
        promise9drawerIsWhatItIsTold();
        promise13porterOfAStrayOfABrokenWire();
        promise16stampsAtASingleWire();
        promise16nearestOfThoseThatStand();
        promise16drawerGivesWhatTheCupHas();
        promise12strayAndOwnOfACounter();
        promise12settledAtACatch();
        promise12settledByItsChild();
        promise12settledAtASingleWire();
        promise12settledInTheRow();
        promise12settledIsSentWhenItWas();
        promise12settledNeedsTheClerk();
        promise35settledIsSentWhenItWas();
        Due.end();
    }

    /** The price is above the number of each CUP, so that none can be taken for the other. */
    private static void sendDear(FlyingChange x, int... cups) {
        for (int c : cups) {
            x.send(c, 60, 5, 1);
        }
    }

    // ---- the row

    /** COUNTERS 1 and 2 on THE CAGE, of these LENGTHS; CUP 0 of 2, CUP 1 of 1. */
    private static FlyingChange twoCounters(int lengthOfOne, int lengthOfTwo) {
        FlyingChange x = new FlyingChange();
        x.post(0, true, lengthOfOne, 1, false);
        x.post(0, true, lengthOfTwo, 1, false);
        x.cup(2);
        x.cup(1);
        return x;
    }

    private static void isTaken(FlyingChange x, String when, int cup) {
        x.clerk(9);
        x.tick(1);
        Due.is(when + ": the clerk takes", x.clerkAt(0, 0), cup);
    }

    private static void promise16firstOfLikeStamps() {
        FlyingChange x = twoCounters(5, 2);
        sendDear(x, 1);
        x.tick(3);
        sendDear(x, 0);
        x.tick(3);
        Due.is("it came at 6", x.cupAt(0, 2), 6);
        Due.is("so did the other", x.cupAt(1, 2), 6);
        isRow(x, "first, like stamps: the least cup, though it was sent later from a greater home", 0, 1);
        isTaken(x, "first, like stamps", 0);
    }

    private static void promise16oldestOfLikeOnes() {
        FlyingChange x = twoCounters(2, 5);
        sendDear(x, 0, 1);
        x.tick(9);
        isRow(x, "first: the least stamp", 1, 0);
        x.order(1);
        isRow(x, "oldest, sent together: the least cup, though it came later from a greater home", 0, 1);
        isTaken(x, "oldest, sent together", 0);
    }

    private static void promise16nearIsTheLeastHome() {
        FlyingChange x = new FlyingChange();
        x.post(0, false, 9, 1, true);
        x.post(1, true, 9, 1, true);
        x.post(0, true, 1, 1, true);
        x.cup(3);
        x.cup(2);
        x.order(2);
        sendDear(x, 0, 1);
        x.tick(30);
        isRow(x, "near: the least home, though its way is longer and by a joint", 1, 0);
        isTaken(x, "near", 1);
    }

    // ---- a catch

    private static void promise16stampOfTheFirstTick() {
        for (int[] cups : new int[][] {{3, 2, 1}, {1, 2, 3}, {2, 1, 3}}) {
            FlyingChange x = twoCounters(1, 1);
            x.cup(1);
            x.cup(1);
            x.cord(1, false);
            for (int cup : cups) {
                sendDear(x, cup);
                x.tick(1);
            }
            x.cord(1, true);
            goOnInTurn(x, "stamps 0, 1, 2", 1, cups);
            x.tick(1);
            x.order(1);
            isRow(x, "sent at 0, 1, 2", cups);
        }
    }

    private static void promise16turnWaitsForTheGap() {
        FlyingChange x = new FlyingChange();
        x.post(0, false, 20, 3, true);
        for (int i = 0; i < 3; i++) {
            x.post(1, true, 1, 1, true);
        }
        x.joint(1, 0, 2);
        for (int home : new int[] {4, 3, 2, 4, 3, 2}) {
            x.cup(home);
        }
        sendDear(x, 0, 1, 2, 3, 4, 5);
        int[] due = {2, 1, 0, 5, 4, 3};
        for (int i = 0; i < due.length; i++) {
            x.tick(2);
            isAt(x, "turn, place " + i, due[i], ON_WIRE, 1);
            Due.is("turn, place " + i + ": so many are on it", x.on(1, true), i + 1);
            x.tick(1);
            Due.is("a tick later no more", x.on(1, true), i + 1);
        }
    }

    /** CUP 0 of 2 is STRAY at 3, its SALE is ANSWERED, or REFUSED; SENT at 30, THE TICK is 60. CLERK 0 needs so many ticks. */
    private static FlyingChange withStray(int catchOfIt, boolean refused, int needs, int... homes) {
        FlyingChange x = joint(5, catchOfIt, homes);
        x.clerk(needs);
        x.joint(1, 1, 2);
        sendDear(x, 0);
        x.tick(30);
        isAt(x, "the first goes the right way", 0, HOME, 2);
        x.drawer(0, 0);
        x.send(0, 2, refused ? 1 : 0, refused ? 1 : 2);
        x.tick(30);
        isAt(x, "the second goes the wrong way", 0, STRAY, 3);
        Due.is("its sale", x.cupAt(0, 6), refused ? 3 : 2);
        x.joint(1, 1, 0);
        return x;
    }

    private static void promise16turnIsWhereItCameFrom() {
        FlyingChange x = withStray(2, false, 1, 2, 3, 4, 2);
        x.resend(0);
        x.tick(2);
        isAt(x, "it goes up from 3", 0, ON_WIRE, 1);
        x.cord(1, false);
        sendDear(x, 1, 2, 3);
        x.tick(2);
        x.cord(1, true);
        goOnInTurn(x, "behind 3, though its home is 2: 4, 2, 3", 1, 2, 3, 1);
    }

    private static void promise16turnOfTheWayDown() {
        FlyingChange x = joint(5, 2, 4, 2, 2, 3);
        x.clerk(1);
        sendDear(x, 0);
        x.tick(2);
        sendDear(x, 1);
        x.tick(2);
        isAt(x, "4 has gone up, then 2", 1, ON_WIRE, 1);
        x.tick(9);
        isAt(x, "the first goes down to 4", 0, ON_WIRE, 4);
        x.cord(1, false);
        sendDear(x, 2, 3);
        x.tick(2);
        x.cord(1, true);
        goOnInTurn(x, "a cup that goes down is no turn: behind 2 is 3", 1, 3, 2);
    }

    private static void promise16turnOfABrokenChild() {
        for (int catchOfIt = 1; catchOfIt <= 2; catchOfIt++) {
            FlyingChange x = joint(5, catchOfIt, 3, 2);
            x.cord(1, false);
            sendDear(x, 0, 1);
            x.tick(2);
            x.cord(2, false);
            x.cord(1, true);
            goOnInTurn(x, "catch " + catchOfIt + ": it came from 2, which is broken by now", 1, 1, 0);
        }
    }

    // ---- the way down

    private static void promise16downFromTheCage() {
        FlyingChange x = joint(5, 0, 2, 4);
        sendDear(x, 1);
        x.tick(1);
        sendDear(x, 0);
        x.tick(9);
        x.cord(1, false);
        x.clerk(1);
        x.tick(3);
        isAt(x, "both wait in the cage", 0, WAITING, 0);
        isAt(x, "both wait in the cage", 1, WAITING, 0);
        x.cord(1, true);
        goOnInTurn(x, "the least stamp, though cup and home are greater", 1, 1, 0);
        FlyingChange y = joint(5, 0, 4, 2);
        sendDear(y, 0, 1);
        y.tick(9);
        y.cord(1, false);
        y.clerk(3);
        y.clerk(3);
        y.tick(4);
        Due.is("done together", y.cupAt(0, 2), y.cupAt(1, 2));
        y.cord(1, true);
        goOnInTurn(y, "like stamps: the least cup, though its home is greater", 1, 0, 1);
    }

    /** JOINTS 1 and 2, one below the other, with COUNTERS 3 and 4 on 2. */
    private static void promise16downFromAJoint() {
        for (int catchOfBoth = 0; catchOfBoth <= 2; catchOfBoth++) {
            FlyingChange x = new FlyingChange();
            x.post(0, false, 1, 1, true);
            x.post(1, false, 1, 1, true);
            x.post(2, true, 1, 1, true);
            x.post(2, true, 1, 1, true);
            x.joint(1, 0, catchOfBoth);
            x.joint(2, 0, catchOfBoth);
            x.cup(3);
            x.cup(4);
            x.clerk(1);
            sendDear(x, 1);
            x.tick(1);
            sendDear(x, 0);
            x.tick(3);
            x.cord(2, false);
            x.tick(5);
            isAt(x, "both wait at 1", 0, WAITING, 1);
            isAt(x, "both wait at 1", 1, WAITING, 1);
            Due.is("to go to 2", x.cupAt(0, 4), 2);
            Due.is("to go to 2", x.cupAt(1, 4), 2);
            x.cord(2, true);
            goOnInTurn(x, "catch " + catchOfBoth + " is for those that go up", 2, 1, 0);
        }
    }

    private static void promise16thrownToABrokenWire() {
        FlyingChange x = joint(5, 0, 3, 2, 4);
        x.joint(1, 1, 2);
        x.clerk(1);
        x.cord(3, false);
        sendDear(x, 2);
        x.tick(1);
        sendDear(x, 1);
        x.tick(13);
        isAt(x, "the first at the catch", 2, HOME, 4);
        isAt(x, "the second is thrown to 3, though that wire is broken", 1, WAITING, 1);
        Due.is("the second: to 3", x.cupAt(1, 4), 3);
        x.cord(3, true);
        sendDear(x, 0);
        x.tick(1);
        isAt(x, "it goes when the wire is whole", 1, ON_WIRE, 3);
        FlyingChange y = joint(5, 0, 3, 2, 4);
        y.joint(1, 1, 2);
        y.clerk(1);
        sendDear(y, 2);
        y.tick(1);
        sendDear(y, 1);
        y.tick(1);
        sendDear(y, 0);
        y.tick(2);
        y.cord(3, false);
        y.tick(15);
        isAt(y, "thrown there", 1, WAITING, 1);
        isAt(y, "rightly there", 0, WAITING, 1);
        Due.is("thrown: to 3", y.cupAt(1, 4), 3);
        Due.is("rightly: to 3", y.cupAt(0, 4), 3);
        y.cord(3, true);
        goOnInTurn(y, "the least stamp, though it does not belong there", 3, 1, 0);
        y.tick(1);
        isAt(y, "not its home", 1, STRAY, 3);
        isAt(y, "its home", 0, HOME, 3);
    }

    private static void promise16leastChildOfNoHome() {
        FlyingChange x = new FlyingChange();
        x.post(0, false, 1, 1, true);
        x.post(1, false, 1, 1, true);
        x.post(2, true, 1, 1, true);
        x.post(1, true, 1, 1, true);
        x.post(2, true, 1, 1, true);
        x.cup(4);
        x.clerk(1);
        sendDear(x, 0);
        x.tick(9);
        x.joint(1, 1, 2);
        sendDear(x, 0);
        x.tick(9);
        sendDear(x, 0);
        x.tick(9);
        isAt(x, "thrown from 4 round to 2, and there to the least child", 0, STRAY, 3);
    }

    private static void promise16nextChildIsANewOne() {
        FlyingChange x = joint(5, 0, 4, 4);
        x.clerk(1);
        x.joint(1, 1, 2);
        sendDear(x, 0);
        x.tick(20);
        isAt(x, "the first", 0, HOME, 4);
        Due.is("a counter behind 4", x.post(1, true, 1, 1, true), 5);
        sendDear(x, 0);
        x.tick(20);
        isAt(x, "the second, to that behind", 0, STRAY, 5);
    }

    // ---- what is broken, worn or told

    private static void promise2newJointIsAsAtFirst() {
        FlyingChange x = joint(5, 2);
        x.joint(1, 1, 9);
        x.joint(1, 2, 1);
        x.cord(1, false);
        Due.is("a joint on that joint", x.post(1, false, 1, 1, true), 5);
        Due.is("its wire is whole", x.about(5, 5), 1);
        Due.is("its catch", x.joint(5, 0, 0), 0);
        Due.is("it is not worn", x.joint(5, 1, 0), 0);
        Due.is("it is not silent", x.joint(5, 2, 0), 0);
        Due.is("nothing is sent in the rush", x.load(5, 0), 0);
    }

    private static void promise5brokenWiresRefuseNothing() {
        FlyingChange x = joint(5, 0);
        x.cord(1, false);
        x.cord(2, false);
        Due.is("a cup of a counter whose wire is broken", x.cup(2), 0);
        Due.is("it is sent", x.send(0, 1, 0, 1), 0);
        Due.is("that counter in the rush", x.rush(2, 0, 300), 0);
        Due.is("its load", x.load(2, 0), 300);
        Due.is("a counter on the joint whose wire is broken", x.post(1, true, 1, 1, true), 5);
        Due.is("its wire is whole", x.about(5, 5), 1);
        x.tick(5);
        isAt(x, "it waits", 0, WAITING, 2);
        x.cord(2, true);
        x.tick(5);
        isAt(x, "its own wire alone was mended", 0, WAITING, 1);
        Due.is("the other is broken", x.about(1, 5), 0);
        Due.is("that of another counter never was", x.about(3, 5), 1);
    }

    private static void promise3jointsAreToldOneByOne() {
        FlyingChange x = new FlyingChange();
        x.post(0, false, 1, 1, true);
        x.post(1, false, 1, 1, true);
        x.post(0, false, 1, 1, true);
        x.joint(2, 0, 2);
        x.joint(2, 1, 7);
        x.joint(2, 2, 1);
        for (int joint = 1; joint <= 3; joint++) {
            boolean told = joint == 2;
            Due.is("catch of " + joint, x.joint(joint, 0, 0), told ? 2 : 0);
            Due.is("worn: " + joint, x.joint(joint, 1, 0), told ? 7 : 0);
            Due.is("silent: " + joint, x.joint(joint, 2, 0), told ? 1 : 0);
        }
        x.cord(2, false);
        x.cord(3, false);
        Due.is("wire 1 is whole, was", x.cord(1, true), 1);
        Due.is("wire 3 is broken, was", x.cord(3, true), 0);
        Due.is("wire 2 is broken, was", x.cord(2, true), 0);
    }

    private static void promise13porterOfAStrayOfABrokenWire() {
        FlyingChange x = withStray(0, false, 1, 2);
        x.cord(3, false);
        x.cord(2, false);
        x.cord(1, false);
        Due.is("a porter goes beside the wires", x.porter(0), 66);
        x.tick(6);
        isAt(x, "home", 0, HOME, 2);
        FlyingChange y = withStray(0, false, 1, 2);
        y.cord(3, false);
        Due.is("resent, for a broken wire", y.resend(0), 3);
        y.tick(9);
        isAt(y, "it waits there", 0, WAITING, 3);
        Due.is("no porter for one that waits", y.porter(0), STATE);
    }

    /** A SINGLE WIRE 1 with JOINT 1, COUNTERS 2 and 3 on that: one comes up from 2, one was SENT later and goes down. */
    private static void promise16stampsAtASingleWire() {
        FlyingChange x = new FlyingChange();
        x.post(0, false, 1, 1, false);
        x.post(1, true, 20, 1, true);
        x.post(1, true, 1, 1, true);
        x.cup(2);
        x.cup(3);
        x.clerk(1);
        sendDear(x, 0);
        x.tick(15);
        sendDear(x, 1);
        x.tick(3);
        x.cord(1, false);
        x.tick(7);
        Due.is("it waits in the cage from 19 on", x.cupAt(1, 2), 19);
        Due.is("it waits at the joint from 21 on", x.cupAt(0, 2), 21);
        x.cord(1, true);
        goOnInTurn(x, "the lesser stamp, though it was sent later", 1, 1);
        x.tick(1);
        isAt(x, "then the other", 0, ON_WIRE, 1);
    }

    /** CUPS 1 and 0 stand on a WIRE at PLACES 6 and 1, behind one another; CUP 2 waits for it. */
    private static void promise16nearestOfThoseThatStand() {
        for (int sort = 0; sort < 2; sort++) {
            FlyingChange x = new FlyingChange();
            x.post(0, true, 20, 5, sort == 1);
            for (int i = 0; i < 3; i++) {
                x.cup(1);
            }
            sendDear(x, 1);
            x.tick(1);
            sendDear(x, 0);
            x.tick(6);
            Due.is("the first stands at 6", x.cupAt(1, 2), 6);
            Due.is("the second stands at 1", x.cupAt(0, 2), 1);
            x.cord(1, false);
            sendDear(x, 2);
            x.tick(30);
            x.cord(1, true);
            for (int place = 2; place <= 4; place++) {
                x.tick(1);
                isAt(x, "one is at " + place + ", which is less than 5", 2, WAITING, 1);
            }
            goOnInTurn(x, "the nearest is at 5", 1, 2);
        }
    }

    /** What is given leaves THE DRAWER, KIND by KIND, and comes into the CUP. */
    private static void promise16drawerGivesWhatTheCupHas() {
        int[][] drawers = {{0, 2, 0, 3, 1, 0}, {6, 0, 0, 3, 1, 0}, {1, 1, 1, 1, 1, 1}, {9, 9, 9, 9, 9, 9}, {0, 0, 0, 7, 1, 1}, {0, 0, 0, 0, 0, 0}};
        int[] prices = {24, 24, 1, 1, 36, 1};
        int[][] given = {{0, 2, 0, 0, 1, 0}, {0, 0, 0, 3, 0, 0}, {0, 0, 0, 0, 0, 0}, {2, 1, 0, 2, 1, 0}, {0, 0, 0, 2, 0, 0}, {0, 0, 0, 0, 0, 0}};
        for (int i = 0; i < drawers.length; i++) {
            FlyingChange x = new FlyingChange();
            x.post(0, true, 1, 1, true);
            x.cup(1);
            x.clerk(1);
            for (int kind = 0; kind < 6; kind++) {
                x.drawer(kind, drawers[i][kind]);
            }
            x.send(0, prices[i], 5, 1);
            x.tick(3);
            boolean refused = prices[i] == 1 && drawers[i][0] < 2;
            Due.is("its sale, drawer " + i, x.cupAt(0, 6), refused ? 3 : 2);
            for (int kind = 0; kind < 6; kind++) {
                int came = kind == 5 ? 1 : 0;
                int inIt = refused ? came : given[i][kind];
                Due.is("in the cup, drawer " + i + ": coins(0, " + kind + ")", x.coins(0, kind), inIt);
                Due.is("in the drawer " + i + ": till(" + kind + ")", x.till(kind), drawers[i][kind] + came - inIt);
            }
        }
    }

    private static void promise9drawerIsWhatItIsTold() {
        FlyingChange x = new FlyingChange();
        x.drawer(0, 1000);
        for (int i = 0; i < 15; i++) {
            x.fetch(0, 100, 1);
        }
        x.tick(1);
        Due.is("more than can be told, was", x.drawer(0, 3), 2500);
        Due.is("told", x.till(0), 3);
        Due.is("none, was", x.drawer(0, 0), 3);
        Due.is("told none", x.till(0), 0);
    }

    // ---- settled cups

    private static void promise12strayAndOwnOfACounter() {
        FlyingChange x = withStray(0, false, 1, 2, 3);
        sendDear(x, 1);
        x.resend(0);
        goOnInTurn(x, "like stamps: the least cup, which is the stray", 3, 0, 1);
        FlyingChange y = withStray(0, false, 1, 2, 3);
        y.cord(3, false);
        sendDear(y, 1);
        y.tick(1);
        y.resend(0);
        y.cord(3, true);
        goOnInTurn(y, "the least stamp, which is not the stray", 3, 1, 0);
        FlyingChange z = withStray(0, true, 1, 2, 3);
        z.cord(3, false);
        z.resend(0);
        z.tick(1);
        sendDear(z, 1);
        z.cord(3, true);
        goOnInTurn(z, "the least stamp, which is the stray", 3, 0, 1);
        FlyingChange u = joint(5, 0, 3, 2);
        u.clerk(1);
        u.joint(1, 1, 2);
        sendDear(u, 1);
        u.tick(20);
        sendDear(u, 1);
        u.tick(20);
        isAt(u, "a stray of the greater number", 1, STRAY, 3);
        u.resend(1);
        sendDear(u, 0);
        goOnInTurn(u, "like stamps: the least cup, which is at its home", 3, 0, 1);
    }

    private static void promise12settledAtACatch() {
        for (int refused = 0; refused < 2; refused++) {
            for (int catchOfIt = 0; catchOfIt <= 2; catchOfIt++) {
                FlyingChange x = withStray(0, refused == 1, 1, 2, 3, 4);
                x.joint(1, 0, catchOfIt == 1 ? 1 : 0);
                x.cord(1, false);
                x.resend(0);
                x.tick(1);
                sendDear(x, 1);
                x.tick(2);
                x.cord(1, true);
                goOnInTurn(x, "the settled one has the lesser stamp", 1, 0, 1);
                FlyingChange y = withStray(0, refused == 1, 1, 2, 3, 4);
                y.cord(1, false);
                sendDear(y, 2);
                y.tick(1);
                y.resend(0);
                y.tick(2);
                y.cord(1, true);
                goOnInTurn(y, "the settled one has the greater stamp", 1, 2, 0);
            }
        }
    }

    /** The settled one came from 3, ahead of the others, which came from 2 and 4. */
    private static void promise12settledByItsChild() {
        for (int refused = 0; refused < 2; refused++) {
            FlyingChange x = withStray(1, refused == 1, 1, 2, 4, 2);
            x.cord(1, false);
            x.resend(0);
            x.tick(1);
            sendDear(x, 1, 2);
            x.tick(2);
            x.cord(1, true);
            goOnInTurn(x, "near: it came from 3, though its stamp is less and its home 2", 1, 2, 0, 1);
            FlyingChange y = withStray(2, refused == 1, 1, 2, 4, 2);
            y.cord(1, false);
            y.resend(0);
            y.tick(1);
            sendDear(y, 1, 2);
            y.tick(2);
            y.cord(1, true);
            goOnInTurn(y, "turn, behind 2: it came from 3", 1, 0, 1, 2);
        }
    }

    /** A SINGLE WIRE 1: the settled one comes to it from below at 44 or 45, another one waits in THE CAGE from 44 on. */
    private static void promise12settledAtASingleWire() {
        for (int refused = 0; refused < 2; refused++) {
            for (int later = 0; later < 2; later++) {
                FlyingChange x = new FlyingChange();
                x.post(0, false, 1, 1, false);
                x.post(1, true, 1, 1, true);
                x.post(1, true, 1, 1, true);
                x.cup(2);
                x.cup(3);
                x.clerk(1);
                x.joint(1, 1, 2);
                sendDear(x, 0);
                x.tick(20);
                x.drawer(0, 0);
                x.send(0, 2, refused, 2);
                x.tick(20);
                isAt(x, "a stray", 0, STRAY, 3);
                Due.is("its sale", x.cupAt(0, 6), refused == 1 ? 3 : 2);
                sendDear(x, 1);
                x.tick(2 + later);
                x.resend(0);
                if (later == 0) {
                    x.tick(1);
                }
                x.cord(1, false);
                x.tick(9);
                Due.is("it waits in the cage", x.cupAt(1, 2), 44);
                Due.is("it waits at the joint", x.cupAt(0, 2), 44 + later);
                x.cord(1, true);
                goOnInTurn(x, "like stamps: it goes up; a greater one: it waits", 1, later, 1 - later);
            }
        }
    }

    /** The CLERK has CUP 1; in THE ROW are CUP 0, which is settled, and CUP 2, which is OPEN; THE TICK is 71. */
    private static FlyingChange settledInTheRow(boolean refused, boolean settledFirst, int homeOfTheOpen) {
        FlyingChange x = withStray(0, refused, 9, 2, 3, homeOfTheOpen);
        sendDear(x, 1);
        x.tick(1);
        if (settledFirst) {
            x.resend(0);
            x.tick(1);
            sendDear(x, 2);
        } else {
            sendDear(x, 2);
            x.tick(1);
            x.resend(0);
        }
        x.tick(9);
        isAt(x, "the clerk is busy", 1, WITH_CLERK, 0);
        isAt(x, "the settled one", 0, IN_ROW, NONE);
        isAt(x, "the open one", 2, IN_ROW, NONE);
        return x;
    }

    private static void isTakenNext(FlyingChange x, String when, int rule, int cup) {
        x.order(rule);
        isRow(x, when + ", order " + rule, cup, 2 - cup);
        x.tick(x.clerkAt(0, 1));
        Due.is(when + ", order " + rule + ": the clerk takes", x.clerkAt(0, 0), cup);
        Due.is(when + ", order " + rule + ": for as long as any", x.clerkAt(0, 1), 9);
        isRow(x, when + ", order " + rule + ", the other", 2 - cup);
    }

    private static void promise12settledInTheRow() {
        for (int refused = 0; refused < 2; refused++) {
            for (int rule = 0; rule <= 2; rule++) {
                boolean settled = rule != 0;
                isTakenNext(settledInTheRow(refused == 1, true, 4), "the settled one came first", rule, 0);
                isTakenNext(settledInTheRow(refused == 1, false, 4), "the open one came first", rule, settled ? 0 : 2);
                boolean oldest = rule == 1;
                isTakenNext(settledInTheRow(refused == 1, false, 2), "both are of 2", rule, oldest ? 0 : 2);
            }
            FlyingChange y = settledInTheRow(refused == 1, false, 4);
            isRow(y, "first: the open one came first", 2, 0);
            y.order(1);
            isRow(y, "oldest: the settled one was sent first", 0, 2);
            y.order(2);
            isRow(y, "near: the settled one is of 2", 0, 2);
            y.order(0);
            Due.is("its wait is from when it was sent", y.worstBy(1), 41 + y.clerkAt(0, 1) + 9);
            Due.is("by stamps it is the later one", y.worstBy(0), 41 + y.clerkAt(0, 1) + 18);
            Due.is("the best order", y.worst(), 41 + y.clerkAt(0, 1) + 9);
            Due.is("the best order: first", y.best(0), 0);
            Due.is("the best order: then", y.best(1), 2);
        }
    }

    private static void promise12settledIsSentWhenItWas() {
        for (int refused = 0; refused < 2; refused++) {
            FlyingChange x = joint(5, 0, 2, 4, 3);
            x.clerk(9);
            x.joint(1, 1, 2);
            x.cord(4, false);
            x.tick(1);
            sendDear(x, 1);
            sendDear(x, 0);
            x.tick(30);
            x.drawer(0, 0);
            x.send(0, 2, refused, 2);
            x.tick(30);
            isAt(x, "a stray", 0, STRAY, 3);
            Due.is("its sale", x.cupAt(0, 6), refused == 1 ? 3 : 2);
            sendDear(x, 2);
            x.tick(1);
            x.resend(0);
            x.cord(4, true);
            x.tick(9);
            isAt(x, "the clerk is busy", 2, WITH_CLERK, 0);
            isRow(x, "first: they came in this turn", 0, 1);
            x.order(1);
            isRow(x, "oldest: the settled one was not sent first", 1, 0);
        }
    }

    private static void promise12settledNeedsTheClerk() {
        for (int refused = 0; refused < 2; refused++) {
            FlyingChange x = withStray(0, refused == 1, 7, 2);
            int worth = x.coins(0, 6);
            x.drawer(0, 50);
            int lying = x.till(6);
            x.resend(0);
            x.tick(7);
            isAt(x, "with the clerk", 0, WITH_CLERK, 0);
            for (int left = 7; left >= 1; left--) {
                Due.is("as long as any other", x.clerkAt(0, 1), left);
                x.tick(1);
            }
            isAt(x, "done", 0, ON_WIRE, 1);
            Due.is("its sale stays as it is", x.cupAt(0, 6), refused == 1 ? 3 : 2);
            Due.is("its coins stay in it", x.coins(0, 6), worth);
            Due.is("the drawer has no more", x.till(6), lying);
        }
    }

    private static void promise35settledIsSentWhenItWas() {
        for (int ones = 0; ones < 2; ones++) {
            Due.is("by a bell 3 ticks behind: mayBe(0)", rungOnce(ones, 0).mayBe(0), 2);
            Due.is("by a bell 2 ticks behind: mayBe(0)", rungOnce(ones, 1).mayBe(0), 0);
        }
    }

    /** JOINT 1, which is 3 from the HOME of CUP 0, rings at 3 alone, and is SILENT when that CUP comes, up and down. */
    private static FlyingChange rungOnce(int ones, int sent) {
        FlyingChange x = new FlyingChange();
        x.post(0, false, 2, 1, true);
        x.post(1, true, 3, 1, true);
        x.post(1, true, 1, 1, true);
        x.cup(2);
        x.cup(3);
        x.clerk(1);
        x.drawer(0, ones);
        for (int t = 0; t < 3; t++) {
            if (t == sent) {
                x.send(0, 2, 1, 1);
            }
            if (t == 1) {
                x.send(1, 3, 1, 1);
            }
            x.tick(1);
        }
        Due.is("it rang at 3", x.bell(0, true), 3);
        x.joint(1, 2, 1);
        x.tick(6 + sent);
        Due.is("it rang once", x.bells(), 1);
        isAt(x, "on its way down", 0, ON_WIRE, 2);
        Due.is("its sale", x.cupAt(0, 6), ones == 0 ? 3 : 2);
        x.joint(1, 2, 0);
        return x;
    }
}
