/** Promises 16 to 22: the rules of a TICK, THE ROW, CLERKS and THE DRAWER. */
public final class TickTest extends Shops {
    public static void main(String[] args) {
        promise16numbers();
        promise16timetable();
        promise16brokenWire();
        promise16gap();
        promise16gapOfAStandingCup();
        promise16gapOfAShortWire();
        promise16singleWire();
        promise16likeStamps();
        promise16catches();
        promise16turnGoesOn();
        promise16wayDown();
        promise16worn();
        promise16wornRound();
        promise16wrongBranch();
        promise16sales();
        promise16drawerInItsOrder();
        promise16clerksTakeByNumber();
        promise17row();
        promise17likeOnes();
        promise18clerkAt();
        promise19till();
        promise20could();
        promise21gives();
        promise22on();
        Due.end();
    }

    private static void promise16numbers() {
        FlyingChange x = new FlyingChange();
        Due.is("tick(0)", x.tick(0), OUTSIDE);
        Due.is("tick(-1)", x.tick(-1), OUTSIDE);
        Due.is("tick(201)", x.tick(201), OUTSIDE);
        Due.is("tick(1)", x.tick(1), 1);
        Due.is("tick(200)", x.tick(200), 201);
        for (int i = 0; i < 98; i++) {
            x.tick(200);
        }
        Due.is("nearly at the end", x.total(2), 19801);
        Due.is("one too many", x.tick(200), FULL);
        Due.is("what is refused changes nothing", x.total(2), 19801);
        Due.is("just so many", x.tick(199), 20000);
        Due.is("above 20000", x.tick(1), FULL);
        Due.is("wrong, above 20000", x.tick(201), OUTSIDE);
    }

    private static void promise16timetable() {
        FlyingChange x = new FlyingChange();
        x.post(0, false, 3, 1, false);
        x.post(1, true, 2, 1, false);
        x.cup(2);
        x.clerk(2);
        sendAll(x, 0);
        int[][] due = {{ON_WIRE, 2, 0}, {ON_WIRE, 2, 1}, {ON_WIRE, 1, 0}, {ON_WIRE, 1, 1}, {ON_WIRE, 1, 2},
            {WITH_CLERK, 0, 2}, {WITH_CLERK, 0, 1}, {ON_WIRE, 1, 0}, {ON_WIRE, 1, 1}, {ON_WIRE, 1, 2}, {ON_WIRE, 2, 0},
            {ON_WIRE, 2, 1}, {HOME, 2, NONE}, {HOME, 2, NONE}};
        for (int[] d : due) {
            x.tick(1);
            isAt(x, "timetable", 0, d[0], d[1], d[2]);
        }
        Due.is("the wait", x.waits(2, 2), 13);
    }

    private static void promise16brokenWire() {
        FlyingChange x = oneWire(5, 1, false, 2);
        x.cord(1, false);
        sendAll(x, 0);
        x.tick(7);
        isAt(x, "none goes on a broken wire", 0, WAITING, 1, 0);
        x.cord(1, true);
        x.tick(3);
        isAt(x, "mended", 0, ON_WIRE, 1, 2);
        x.cord(1, false);
        x.tick(7);
        isAt(x, "none moves on a broken wire", 0, ON_WIRE, 1, 2);
        x.cord(1, true);
        x.tick(3);
        isAt(x, "mended again", 0, IN_ROW, NONE, 20);
    }

    private static void promise16gap() {
        FlyingChange x = oneWire(5, 3, false, 3);
        sendAll(x, 2, 1, 0);
        x.tick(3);
        isAt(x, "the least cup of like stamps", 0, ON_WIRE, 1, 2);
        isAt(x, "the next waits", 1, WAITING, 1, 0);
        x.tick(1);
        isAt(x, "the gap is there", 1, ON_WIRE, 1, 0);
        x.tick(3);
        isAt(x, "and once more", 2, ON_WIRE, 1, 0);
        FlyingChange y = oneWire(5, 1, false, 3);
        sendAll(y, 2);
        y.cord(1, false);
        y.tick(1);
        sendAll(y, 0, 1);
        y.cord(1, true);
        y.tick(3);
        isAt(y, "the least stamp", 2, ON_WIRE, 1, 2);
        isAt(y, "then the least cup", 0, ON_WIRE, 1, 1);
    }

    private static void promise16gapOfAStandingCup() {
        FlyingChange x = oneWire(5, 3, false, 2);
        sendAll(x, 0, 1);
        x.tick(2);
        x.cord(1, false);
        x.tick(10);
        x.cord(1, true);
        x.tick(1);
        isAt(x, "it stands at 2", 0, ON_WIRE, 1, 2);
        isAt(x, "the next waits, though none went on for long", 1, WAITING, 1, 0);
        x.tick(1);
        isAt(x, "it stands at 3", 1, ON_WIRE, 1, 0);
    }

    private static void promise16gapOfAShortWire() {
        FlyingChange x = oneWire(1, 10, false, 2);
        x.clerk(1);
        sendAll(x, 0, 1);
        x.tick(10);
        isAt(x, "single: it waits to go down", 0, WAITING, 0, 3);
        isAt(x, "single: it waits to go up", 1, WAITING, 1, 0);
        x.tick(1);
        isAt(x, "single: the lesser stamp goes", 1, ON_WIRE, 1, 0);
        isAt(x, "single: the other waits on", 0, WAITING, 0, 3);
        x.tick(10);
        isAt(x, "single: 10 ticks later the other way", 0, ON_WIRE, 1, 0);
        FlyingChange y = oneWire(1, 10, true, 2);
        y.clerk(1);
        sendAll(y, 0, 1);
        y.tick(3);
        isAt(y, "double: down at once", 0, ON_WIRE, 1, 0);
        y.tick(7);
        isAt(y, "double: up waits for its own gap", 1, WAITING, 1, 0);
        y.tick(1);
        isAt(y, "double: up after 10", 1, ON_WIRE, 1, 0);
        FlyingChange z = oneWire(1, 10, true, 2);
        z.clerk(12);
        z.clerk(1);
        sendAll(z, 0, 1);
        z.tick(13);
        isAt(z, "double: down", 1, ON_WIRE, 1, 0);
        z.tick(9);
        isAt(z, "double: down waits for its own gap", 0, WAITING, 0, 14);
        z.tick(1);
        isAt(z, "double: down after 10", 0, ON_WIRE, 1, 0);
    }

    /** CUP 0 is done at TICK 22 and waits to go down; CUP 1 is sent at the TICK told. */
    private static FlyingChange twoWays(boolean both, int sentAt) {
        FlyingChange x = oneWire(20, 1, both, 2);
        x.clerk(1);
        sendAll(x, 0);
        x.tick(21);
        x.cord(1, false);
        if (sentAt > 21) {
            x.tick(sentAt - 21);
        }
        sendAll(x, 1);
        if (sentAt < 22) {
            x.tick(1);
        }
        x.cord(1, true);
        return x;
    }

    private static void promise16singleWire() {
        FlyingChange x = twoWays(false, 21);
        x.tick(1);
        isAt(x, "the lesser stamp goes up", 1, ON_WIRE, 1, 0);
        isAt(x, "the other waits in the cage", 0, WAITING, 0, 22);
        x.tick(19);
        isAt(x, "as long as one is on it the other way", 0, WAITING, 0, 22);
        x.tick(1);
        isAt(x, "then it goes", 0, ON_WIRE, 1, 0);
        x = twoWays(false, 23);
        x.tick(1);
        isAt(x, "the lesser stamp goes down", 0, ON_WIRE, 1, 0);
        isAt(x, "the other waits at its counter", 1, WAITING, 1, 23);
        x = twoWays(true, 23);
        x.tick(1);
        isAt(x, "double: down", 0, ON_WIRE, 1, 0);
        isAt(x, "double: and up", 1, ON_WIRE, 1, 0);
    }

    private static void promise16likeStamps() {
        FlyingChange x = twoWays(false, 22);
        x.tick(1);
        isAt(x, "of like stamps that which goes up", 1, ON_WIRE, 1, 0);
        isAt(x, "not that which goes down", 0, WAITING, 0, 22);
    }

    /** A JOINT 1 with COUNTERS 2, 3, 4, whose WIRE is BROKEN; CUPS 0 .. 6 of 4, 3, 2, 2, 3, 3, 2 come, each a tick later. */
    private static FlyingChange gathered(int latch, int cups) {
        FlyingChange x = new FlyingChange();
        x.post(0, false, 1, 1, true);
        for (int i = 0; i < 3; i++) {
            x.post(1, true, 1, 1, true);
        }
        x.joint(1, 0, latch);
        x.cord(1, false);
        int[] homes = {4, 3, 2, 2, 3, 3, 2};
        for (int i = 0; i < cups; i++) {
            x.cup(homes[i]);
            sendAll(x, i);
            x.tick(1);
        }
        x.tick(5);
        return x;
    }

    private static void promise16catches() {
        int[][] due = {{0, 1, 2, 3, 4}, {2, 3, 1, 4, 0}, {2, 1, 0, 3, 4}};
        for (int latch = 0; latch < 3; latch++) {
            FlyingChange x = gathered(latch, 5);
            x.cord(1, true);
            x.tick(6);
            isRow(x, "catch " + latch, due[latch]);
            Due.is("one each tick", x.cupAt(due[latch][4], 2) - x.cupAt(due[latch][0], 2), 4);
        }
    }

    private static void promise16turnGoesOn() {
        FlyingChange x = gathered(2, 7);
        x.cord(1, true);
        x.tick(8);
        isRow(x, "turn", 2, 1, 0, 3, 4, 6, 5);
        FlyingChange y = gathered(0, 5);
        y.cord(1, true);
        y.tick(2);
        y.joint(1, 0, 2);
        y.tick(4);
        isRow(y, "4 and 3 went up ahead of it; then behind 3: 2, 3, 2", 0, 1, 2, 4, 3);
    }

    private static void promise16wayDown() {
        for (int brokenFrom = 0; brokenFrom < 2; brokenFrom++) {
            FlyingChange x = oneWire(1, 1, true, 2);
            x.clerk(5);
            x.clerk(4 + brokenFrom);
            sendAll(x, 1);
            x.tick(1);
            sendAll(x, 0);
            x.tick(5);
            isAt(x, "with the other clerk", 0, WITH_CLERK, 1, 1 + brokenFrom);
            x.cord(1, false);
            x.tick(2);
            x.cord(1, true);
            x.tick(1);
            if (brokenFrom == 0) {
                isAt(x, "of like stamps the least cup", 0, ON_WIRE, 1, 0);
                isAt(x, "and the other waits", 1, WAITING, 0, 7);
            } else {
                isAt(x, "the least stamp", 1, ON_WIRE, 1, 0);
                isAt(x, "and the other waits", 0, WAITING, 0, 8);
            }
        }
    }

    private static void promise16worn() {
        FlyingChange x = threeCounters();
        goes(x, "not worn", 1, 3);
        x.joint(1, 1, 3);
        goes(x, "worn by 3, the first", 1, 3);
        goes(x, "worn by 3, the second", 1, 3);
        goes(x, "worn by 3, the third", 1, 4);
        goes(x, "worn by 3, the fourth", 1, 3);
        goes(x, "worn by 3, the fifth", 1, 3);
        x.joint(1, 1, 3);
        goes(x, "its count begins anew: the first", 1, 3);
        goes(x, "its count begins anew: the second", 0, 2);
        goes(x, "its count begins anew: the third", 1, 4);
        x.joint(1, 1, 0);
        for (int i = 0; i < 4; i++) {
            goes(x, "worn no more", 1, 3);
        }
    }

    private static void promise16wornRound() {
        FlyingChange x = threeCounters();
        x.joint(1, 1, 2);
        goes(x, "the first", 2, 4);
        goes(x, "behind the last the least", 2, 2);
        FlyingChange y = new FlyingChange();
        y.post(0, false, 1, 1, true);
        y.post(1, true, 1, 1, true);
        y.cup(2);
        y.clerk(1);
        y.joint(1, 1, 2);
        goes(y, "the first of one child", 0, 2);
        goes(y, "an only child is behind itself", 0, 2);
    }

    private static void promise16wrongBranch() {
        FlyingChange x = new FlyingChange();
        x.post(0, false, 1, 1, true);
        x.post(1, true, 1, 1, true);
        x.post(1, false, 1, 1, true);
        x.post(3, true, 1, 1, true);
        x.post(3, true, 1, 1, true);
        x.cup(2);
        x.clerk(1);
        x.joint(1, 1, 2);
        x.joint(3, 1, 2);
        sendAll(x, 0);
        x.tick(6);
        isAt(x, "the first", 0, HOME, 2, NONE);
        sendAll(x, 0);
        x.tick(7);
        isAt(x, "no home below 3: to its least child", 0, STRAY, 4, NONE);
        x.resend(0);
        x.tick(8);
        isAt(x, "the third at 1", 0, HOME, 2, NONE);
        sendAll(x, 0);
        x.tick(7);
        isAt(x, "the second at 3: to the child behind", 0, STRAY, 5, NONE);
    }

    private static void promise16sales() {
        FlyingChange x = oneWire(1, 1, true, 4);
        x.clerk(1);
        x.drawer(1, 1);
        x.send(0, 1, 0, 3);
        x.tick(3);
        Due.is("what came is given too: sale", x.cupAt(0, 6), 2);
        Due.is("two of one", x.coins(0, 0), 2);
        Due.is("is that all", x.coins(0, 6), 2);
        Due.is("the drawer", x.till(6), 4);
        x.send(1, 1, 1, 4);
        x.tick(3);
        Due.is("11 of threes and a one: it can't", x.cupAt(1, 6), 3);
        Due.is("what came is in it again", x.coins(1, 1), 4);
        Due.is("and nothing else", x.coins(1, 6), 12);
        Due.is("the drawer is as it was", x.till(6), 4);
        x.send(2, 30, 4, 1);
        x.tick(3);
        Due.is("no change is due", x.cupAt(2, 6), 2);
        Due.is("it is empty", x.coins(2, 6), 0);
        Due.is("the drawer has it", x.till(4), 1);
        x.drawer(3, 3);
        x.drawer(1, 2);
        x.drawer(0, 0);
        x.send(3, 24, 5, 1);
        x.tick(3);
        int[] due = {0, 2, 0, 0, 1, 0};
        for (int k = 0; k < 6; k++) {
            Due.is("36 by 3 coins with the greatest: coins(3, " + k + ")", x.coins(3, k), due[k]);
        }
        x.tick(1);
        Due.is("handed out", x.total(6), 2 + 12 + 36);
        Due.is("refused", x.waits(1, 1), 1);
    }

    private static void promise16drawerInItsOrder() {
        FlyingChange x = oneWire(1, 1, true, 3);
        x.clerk(5);
        x.clerk(4);
        x.drawer(0, 1);
        x.send(1, 5, 2, 1);
        x.fetch(0, 5, 7);
        x.tick(1);
        x.send(0, 5, 2, 1);
        x.send(2, 5, 2, 1);
        x.tick(5);
        Due.is("nothing is settled yet", x.till(6), 1);
        x.tick(1);
        Due.is("clerk 0 is before clerk 1", x.cupAt(1, 6), 2);
        Due.is("clerk 1 can't give it", x.cupAt(0, 6), 3);
        Due.is("fetched coins come behind", x.till(0), 5);
        isAt(x, "he who is done takes the next in that tick", 2, WITH_CLERK, 0, 5);
    }

    private static void promise16clerksTakeByNumber() {
        FlyingChange x = oneWire(1, 1, true, 3);
        sendAll(x, 0, 1, 2);
        x.tick(5);
        x.clerk(7);
        x.clerk(9);
        isRow(x, "no one was there to take them", 0, 1, 2);
        x.tick(1);
        isAt(x, "the next", 0, WITH_CLERK, 0, 7);
        isAt(x, "that behind it", 1, WITH_CLERK, 1, 9);
        isAt(x, "the last", 2, IN_ROW, NONE, 4);
    }

    /** CUPS 0, 1, 2 of 3, 2, 1 are in THE ROW, with STAMPS 6, 5, 13, sent at 0, 2, 3. */
    private static FlyingChange rowOfThree() {
        FlyingChange x = new FlyingChange();
        x.post(0, true, 9, 1, false);
        x.post(0, true, 2, 1, false);
        x.post(0, true, 5, 1, false);
        x.cup(3);
        x.cup(2);
        x.cup(1);
        sendAll(x, 0);
        x.tick(2);
        sendAll(x, 1);
        x.tick(1);
        sendAll(x, 2);
        x.tick(17);
        return x;
    }

    private static void promise17row() {
        int[][] due = {{1, 0, 2}, {0, 1, 2}, {2, 1, 0}};
        for (int rule = 0; rule < 3; rule++) {
            FlyingChange x = rowOfThree();
            x.order(rule);
            isRow(x, "order " + rule, due[rule]);
            Due.is("row(-1)", x.row(-1), NONE);
            Due.is("row of the greatest number", x.row(Integer.MAX_VALUE), NONE);
            x.clerk(30);
            x.tick(1);
            Due.is("order " + rule + ": the clerk takes", x.clerkAt(0, 0), due[rule][0]);
            isRow(x, "order " + rule + ", one is taken", due[rule][1], due[rule][2]);
        }
        Due.is("of an empty row", new FlyingChange().row(0), NONE);
    }

    private static void promise17likeOnes() {
        FlyingChange x = new FlyingChange();
        x.post(0, true, 2, 1, false);
        x.post(0, true, 2, 1, false);
        x.cup(2);
        x.cup(1);
        x.cup(1);
        sendAll(x, 2);
        x.tick(1);
        sendAll(x, 0, 1);
        x.tick(9);
        isRow(x, "first: of like stamps the least cup", 2, 0, 1);
        x.order(1);
        isRow(x, "oldest: of those sent with another the least cup", 2, 0, 1);
        x.order(2);
        isRow(x, "near: of one home the least stamp", 2, 1, 0);
    }

    private static void promise18clerkAt() {
        FlyingChange x = oneWire(1, 1, true, 1);
        x.clerk(4);
        x.clerk(30);
        sendAll(x, 0);
        int[][] due = {{NONE, 0}, {0, 4}, {0, 3}, {0, 2}, {0, 1}, {NONE, 0}};
        for (int[] d : due) {
            x.tick(1);
            Due.is("tick " + x.total(2) + ": clerkAt(0, 0)", x.clerkAt(0, 0), d[0]);
            Due.is("tick " + x.total(2) + ": clerkAt(0, 1)", x.clerkAt(0, 1), d[1]);
            Due.is("clerkAt(0, 2)", x.clerkAt(0, 2), 4);
        }
        Due.is("clerkAt(1, 2)", x.clerkAt(1, 2), 30);
        Due.is("clerkAt(1, 0)", x.clerkAt(1, 0), NONE);
        Due.is("clerkAt(2, 0)", x.clerkAt(2, 0), UNKNOWN);
        Due.is("clerkAt(-1, 3)", x.clerkAt(-1, 3), UNKNOWN);
        Due.is("clerkAt(0, 3)", x.clerkAt(0, 3), OUTSIDE);
        Due.is("clerkAt(0, -1)", x.clerkAt(0, -1), OUTSIDE);
    }

    private static void promise19till() {
        FlyingChange x = new FlyingChange();
        for (int kind = 0; kind < 6; kind++) {
            x.drawer(kind, kind + 1);
        }
        for (int kind = 0; kind < 6; kind++) {
            Due.is("till(" + kind + ")", x.till(kind), kind + 1);
        }
        Due.is("till(6)", x.till(6), 1 + 2 * 3 + 3 * 6 + 4 * 12 + 5 * 30 + 6 * 60);
        Due.is("till(7)", x.till(7), OUTSIDE);
        Due.is("till(-1)", x.till(-1), OUTSIDE);
    }

    private static void promise20could() {
        FlyingChange x = drawerOf(1000, 1000, 1000, 1000, 1000, 1000);
        Due.is("nothing by nothing", x.could(0), 0);
        Due.is("could(1)", x.could(1), 1);
        Due.is("could(48): 30, 12, 6", x.could(48), 3);
        Due.is("could(2999)", x.could(2999), 49 + 1 + 2 + 0 + 1 + 2);
        Due.is("could(3000)", x.could(3000), 50);
        Due.is("could(3001)", x.could(3001), OUTSIDE);
        Due.is("could(-1)", x.could(-1), OUTSIDE);
        Due.is("an empty drawer, nothing", drawerOf().could(0), 0);
        Due.is("an empty drawer, 1", drawerOf().could(1), NONE);
        Due.is("30 stands in the way of 36", drawerOf(0, 0, 0, 3, 1).could(36), 3);
        Due.is("60 stands in the way of 66", drawerOf(0, 0, 0, 3, 1, 1).could(66), 4);
        Due.is("both stand in the way of 84", drawerOf(0, 0, 0, 7, 1, 1).could(84), 3);
        Due.is("60 and 30 stand in the way of 72", drawerOf(0, 0, 0, 6, 1, 1).could(72), 2);
        Due.is("36 by threes and a one, too few", drawerOf(2, 11).could(36), NONE);
        Due.is("35 by threes and ones", drawerOf(2, 11).could(35), 13);
    }

    private static void promise21gives() {
        areGiven(drawerOf(9, 9, 9, 9, 9, 9), 111, 0, 1, 1, 1, 1, 1);
        areGiven(drawerOf(9, 9, 9, 9, 9, 9), 0, 0, 0, 0, 0, 0, 0);
        areGiven(drawerOf(0, 2, 0, 3, 1), 36, 0, 2, 0, 0, 1, 0);
        areGiven(drawerOf(6, 0, 0, 3, 1), 36, 0, 0, 0, 3, 0, 0);
        areGiven(drawerOf(6, 0, 0, 3, 1, 1), 66, 0, 0, 0, 3, 1, 0);
        areGiven(drawerOf(0, 0, 0, 2), 36, NONE, NONE, NONE, NONE, NONE, NONE);
        FlyingChange x = drawerOf(1, 1, 1, 1, 1, 1);
        Due.is("gives(3001, 0)", x.gives(3001, 0), OUTSIDE);
        Due.is("gives(-1, 0)", x.gives(-1, 0), OUTSIDE);
        Due.is("gives(1, 6)", x.gives(1, 6), OUTSIDE);
        Due.is("gives(1, -1)", x.gives(1, -1), OUTSIDE);
        Due.is("what can't be given, of kind 6", x.gives(3000, 6), OUTSIDE);
        Due.is("to ask takes nothing", x.till(6), 112);
    }

    private static void promise22on() {
        FlyingChange x = oneWire(4, 1, true, 4);
        x.clerk(1);
        sendAll(x, 0, 1, 2, 3);
        int[][] due = {{1, 0}, {2, 0}, {3, 0}, {4, 0}, {3, 0}, {2, 1}};
        for (int[] d : due) {
            x.tick(1);
            Due.is("tick " + x.total(2) + ": on(1, true)", x.on(1, true), d[0]);
            Due.is("tick " + x.total(2) + ": on(1, false)", x.on(1, false), d[1]);
        }
        Due.is("of the cage", x.on(0, true), UNKNOWN);
        Due.is("of none", x.on(2, false), UNKNOWN);
        Due.is("of -1", x.on(-1, true), UNKNOWN);
    }
}
