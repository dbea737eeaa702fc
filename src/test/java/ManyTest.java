/** Several at a time, and for long: none stands for another, and what is told of one leaves the others as they are. */
public final class ManyTest extends Shops {
    public static void main(String[] args) {
        promise3toldWhileTheyWait();
        promise3silenceForgetsNoTurn();
        promise3catchForgetsNoWear();
        promise5toldWhatItIs();
        promise2newThingsAreBesideTheOld();
        promise9drawerIsToldAtOnce();
        promise11salesOfManyPrices();
        promise12twoStraysOfOneCounter();
        promise12resentThoughItsHomeIsCutOff();
        promise16rightChildThoughItsWireIsBroken();
        promise13portersOfOneWire();
        promise13portersOfOneTick();
        promise13farPorter();
        promise16twoHundredAtOnce();
        promise18fourClerks();
        promise23longWaits();
        promise23twoCounters();
        promise24longWaits();
        promise35lateBells();
        promise35bellsOfOtherJoints();
        promise36greatSums();
        Due.end();
    }

    // ---- what is told of one thing

    private static void promise3toldWhileTheyWait() {
        for (int catchOfIt = 0; catchOfIt <= 2; catchOfIt++) {
            FlyingChange x = joint(1, 0, 2, 3, 4);
            x.cord(1, false);
            sendAll(x, 2);
            x.tick(1);
            sendAll(x, 1);
            x.tick(1);
            sendAll(x, 0);
            x.tick(3);
            x.joint(1, 0, 2 - catchOfIt);
            x.joint(1, 1, 3);
            x.joint(1, 2, 1);
            x.joint(1, 2, 0);
            x.joint(1, 0, catchOfIt);
            for (int cup = 0; cup < 3; cup++) {
                Due.is("its stamp is as it was", x.cupAt(cup, 2), 4 - cup);
            }
            if (catchOfIt == 0) {
                x.cord(1, true);
                goOnInTurn(x, "first", 1, 2, 1, 0);
            } else {
                x.cord(1, true);
                goOnInTurn(x, "near, or turn", 1, 0, 1, 2);
            }
        }
    }

    private static void promise3silenceForgetsNoTurn() {
        FlyingChange x = joint(1, 0, 2, 3, 4, 2);
        x.joint(1, 0, 2);
        sendAll(x, 0);
        x.tick(2);
        x.joint(1, 2, 1);
        x.joint(1, 1, 5);
        x.joint(1, 2, 0);
        x.cord(1, false);
        x.cord(2, false);
        x.cord(2, true);
        sendAll(x, 1, 2, 3);
        x.tick(2);
        x.cord(1, true);
        goOnInTurn(x, "behind 2 still", 1, 1, 2, 3);
    }

    private static void promise3catchForgetsNoWear() {
        for (int catchOfIt = 0; catchOfIt <= 2; catchOfIt++) {
            FlyingChange x = joint(1, 0, 2);
            x.clerk(1);
            x.joint(1, 0, 1 - catchOfIt / 2);
            x.joint(1, 1, 2);
            sendAll(x, 0);
            x.tick(6);
            isAt(x, "the first", 0, HOME, 2);
            x.joint(1, 0, catchOfIt);
            x.joint(1, 2, 1);
            x.cord(1, false);
            x.cord(1, true);
            sendAll(x, 0);
            x.tick(6);
            isAt(x, "the second, catch " + catchOfIt, 0, STRAY, 3);
        }
    }

    private static void promise5toldWhatItIs() {
        FlyingChange x = new FlyingChange();
        x.post(0, true, 1, 10, true);
        x.cup(1);
        x.cup(1);
        sendAll(x, 0, 1);
        x.tick(5);
        Due.is("it is whole, and told so", x.cord(1, true), 1);
        x.tick(5);
        isAt(x, "9 ticks behind the first", 1, WAITING, 1);
        x.tick(1);
        isAt(x, "10 ticks behind the first", 1, ON_WIRE, 1);
        x.cord(1, false);
        Due.is("it is broken, and told so", x.cord(1, false), 0);
        x.tick(3);
        isAt(x, "it stands", 1, ON_WIRE, 1);
        Due.is("mended once", x.cord(1, true), 0);
        Due.is("whole", x.about(1, 5), 1);
    }

    /** A COUNTER, CUPS, a CLERK and coins that come while two wait for a GAP: it is as long as it was. */
    private static void promise2newThingsAreBesideTheOld() {
        FlyingChange x = new FlyingChange();
        x.post(0, false, 1, 10, true);
        x.post(1, true, 1, 10, true);
        for (int i = 0; i < 2; i++) {
            x.cup(2);
        }
        sendAll(x, 0, 1);
        x.tick(3);
        Due.is("a counter more", x.post(1, true, 1, 1, true), 3);
        Due.is("a joint more", x.post(1, false, 1, 1, true), 4);
        Due.is("a cup more", x.cup(2), 2);
        Due.is("a cup of the new counter", x.cup(3), 3);
        Due.is("a clerk more", x.clerk(30), 0);
        x.fetch(0, 1, 1);
        x.drawer(1, 5);
        x.order(1);
        x.joint(1, 0, 1);
        sendAll(x, 2, 3);
        x.tick(2);
        isAt(x, "the new one has come to the joint", 3, WAITING, 1);
        x.tick(5);
        isAt(x, "9 ticks behind the first at 2", 1, WAITING, 2);
        x.tick(1);
        isAt(x, "10 ticks behind the first at 2", 1, ON_WIRE, 2);
        isAt(x, "9 ticks behind the first at 1", 3, WAITING, 1);
        x.tick(1);
        isAt(x, "10 ticks behind the first at 1: near, from 2", 1, ON_WIRE, 1);
        isAt(x, "the new one waits", 3, WAITING, 1);
        isAt(x, "the first is with the clerk", 0, WITH_CLERK, 0);
        Due.is("for as long as he needs", x.clerkAt(0, 1), 22);
    }

    private static void promise9drawerIsToldAtOnce() {
        FlyingChange x = new FlyingChange();
        x.post(0, true, 1, 1, true);
        x.cup(1);
        x.clerk(5);
        x.drawer(0, 3);
        x.send(0, 5, 2, 1);
        x.tick(4);
        isAt(x, "with the clerk", 0, WITH_CLERK, 0);
        Due.is("told while he has one, was", x.drawer(0, 0), 3);
        Due.is("at once", x.till(0), 0);
        Due.is("told again, was", x.drawer(3, 2), 0);
        Due.is("at once", x.till(3), 2);
        x.tick(3);
        Due.is("it is what he finds there", x.cupAt(0, 6), 3);
        Due.is("what was told is there", x.till(6), 24);
    }

    // ---- several cups

    private static void promise11salesOfManyPrices() {
        FlyingChange x = new FlyingChange();
        x.post(0, true, 1, 1, true);
        for (int kind = 0; kind < 6; kind++) {
            x.drawer(kind, 100);
        }
        int[] prices = {50, 7, 31, 1, 2, 3000, 59, 12};
        for (int cup = 0; cup < prices.length; cup++) {
            x.cup(1);
            int n = (prices[cup] + 59) / 60;
            Due.is("change that is due to " + cup, x.send(cup, prices[cup], 5, n), 60 * n - prices[cup]);
        }
        x.tick(10);
        x.clerk(2);
        x.clerk(2);
        x.tick(1);
        x.cord(1, false);
        x.tick(9);
        for (int cup = 0; cup < prices.length; cup++) {
            int due = (6000 - prices[cup]) % 60;
            Due.is("its price, cup " + cup, x.cupAt(cup, 7), prices[cup]);
            Due.is("its sale, cup " + cup, x.cupAt(cup, 6), 2);
            Due.is("its change, cup " + cup, x.coins(cup, 6), due);
        }
        x.cord(1, true);
        x.tick(20);
        Due.is("all are done with", x.waits(1, 0), prices.length);
        Due.is("all change", x.waits(1, 4), 10 + 53 + 29 + 59 + 58 + 0 + 1 + 48);
        Due.is("handed out", x.total(6), 10 + 53 + 29 + 59 + 58 + 0 + 1 + 48);
    }

    /** CUPS 0 and 1 of 2 are STRAY at 3; CUP 2, of 3, is HOME. */
    private static FlyingChange twoStrays() {
        FlyingChange x = joint(1, 0, 2, 2, 3);
        x.clerk(1);
        for (int cup = 0; cup < 2; cup++) {
            x.joint(1, 1, 2);
            sendAll(x, 2);
            x.tick(10);
            sendAll(x, cup);
            x.tick(10);
            isAt(x, "thrown", cup, STRAY, 3);
        }
        return x;
    }

    private static void promise12twoStraysOfOneCounter() {
        FlyingChange x = twoStrays();
        Due.is("one is resent", x.resend(1), 3);
        isAt(x, "it waits", 1, WAITING, 3);
        isAt(x, "the other is a stray still", 0, STRAY, 3);
        x.tick(2);
        isAt(x, "it is on its way", 1, ON_WIRE, 1);
        isAt(x, "the other is a stray still", 0, STRAY, 3);
        Due.is("the other is resent too", x.resend(0), 3);
        Due.is("its stamp", x.cupAt(0, 2), 42);
        FlyingChange y = twoStrays();
        Due.is("a porter for one", y.porter(0), 46);
        isAt(y, "the other is a stray still", 1, STRAY, 3);
        y.tick(6);
        isAt(y, "home", 0, HOME, 2);
        isAt(y, "the other is a stray still", 1, STRAY, 3);
        Due.is("a sale is done with", y.waits(2, 0), 1);
    }

    private static void promise12resentThoughItsHomeIsCutOff() {
        FlyingChange x = twoStrays();
        x.cord(2, false);
        Due.is("resent", x.resend(0), 3);
        x.tick(9);
        isAt(x, "it waits at the joint for its own wire", 0, WAITING, 1);
        Due.is("to 2", x.cupAt(0, 4), 2);
        Due.is("a porter for the other, as it is a stray", x.porter(1), 55);
        Due.is("none for the one that waits", x.porter(0), STATE);
        x.tick(6);
        isAt(x, "home", 1, HOME, 2);
        x.cord(2, true);
        x.tick(2);
        isAt(x, "home", 0, HOME, 2);
    }

    /** COUNTERS 1, 2, 3 on THE CAGE: CUP 0, of 2, is done while WIRE 2 is BROKEN. */
    private static void promise16rightChildThoughItsWireIsBroken() {
        FlyingChange x = new FlyingChange();
        for (int i = 1; i <= 3; i++) {
            x.post(0, true, 1, 1, true);
        }
        x.cup(2);
        x.cup(3);
        x.clerk(2);
        sendAll(x, 0, 1);
        x.tick(2);
        x.cord(2, false);
        x.tick(9);
        isAt(x, "it waits in the cage", 0, WAITING, 0);
        Due.is("to 2", x.cupAt(0, 4), 2);
        isAt(x, "the other went its way", 1, HOME, 3);
        x.cord(2, true);
        x.tick(2);
        isAt(x, "home", 0, HOME, 2);
    }

    private static void promise13portersOfOneWire() {
        FlyingChange x = new FlyingChange();
        x.post(0, false, 20, 2, true);
        x.post(1, true, 3, 1, true);
        x.post(1, true, 5, 1, true);
        for (int i = 0; i < 4; i++) {
            x.cup(2 + i % 2);
        }
        sendAll(x, 0, 1, 2, 3);
        x.tick(16);
        x.cord(1, false);
        Due.is("four are on it", x.on(1, true), 4);
        int place = x.cupAt(2, 2);
        Due.is("a porter for the second", x.porter(1), 16 + 15);
        isAt(x, "the others stay", 0, ON_WIRE, 1);
        isAt(x, "the others stay", 2, ON_WIRE, 1);
        x.tick(1);
        Due.is("a porter for the first", x.porter(0), 17 + 9);
        Due.is("two are on it", x.on(1, true), 2);
        x.tick(4);
        Due.is("a porter for the last", x.porter(3), 21 + 15);
        for (int t = 21; t < 40; t++) {
            isAt(x, "the first", 0, t < 26 ? WITH_PORTER : HOME, t < 26 ? NONE : 2);
            isAt(x, "the second", 1, t < 31 ? WITH_PORTER : HOME, t < 31 ? NONE : 3);
            isAt(x, "the last", 3, t < 36 ? WITH_PORTER : HOME, t < 36 ? NONE : 3);
            isAt(x, "that which none takes", 2, ON_WIRE, 1);
            x.tick(1);
        }
        Due.is("it stands where it stood", x.cupAt(2, 2), place);
        Due.is("no porter comes twice", x.porter(0), STATE);
    }

    private static void promise13portersOfOneTick() {
        FlyingChange x = new FlyingChange();
        x.post(0, true, 20, 1, true);
        for (int i = 0; i < 4; i++) {
            x.cup(1);
            x.send(i, 1, 1, 1 + i);
        }
        x.tick(9);
        x.cord(1, false);
        for (int i = 0; i < 4; i++) {
            Due.is("a porter for each", x.porter(i), 10);
        }
        x.tick(1);
        for (int i = 0; i < 4; i++) {
            isAt(x, "all are home", i, HOME, 1);
        }
        Due.is("four sales are done with", x.waits(1, 0), 4);
        Due.is("all their waits", x.waits(1, 3), 40);
        Due.is("all their coins", x.waits(1, 4), 3 + 6 + 9 + 12);
        Due.is("handed out", x.total(6), 30);
    }

    /** JOINTS 1, and 2 .. 6 one below another on that; COUNTER 7 on 6; JOINTS 8 .. 12 on 1, and COUNTER 13; all of LENGTH 20. */
    private static void promise13farPorter() {
        FlyingChange x = new FlyingChange();
        x.post(0, false, 20, 1, true);
        for (int i = 2; i <= 7; i++) {
            x.post(i - 1, i == 7, 20, 1, true);
        }
        for (int i = 8; i <= 13; i++) {
            x.post(i == 8 ? 1 : i - 1, i == 13, 20, 1, true);
        }
        x.cup(7);
        x.clerk(30);
        x.joint(1, 1, 2);
        for (int way = 0; way < 2; way++) {
            sendAll(x, 0);
            x.tick(200);
            x.tick(200);
        }
        isAt(x, "the second is thrown to 8 and all the way down", 0, STRAY, 13);
        Due.is("12 wires of 20, at 3", x.porter(0), 800 + 720);
        for (int i = 0; i < 3; i++) {
            x.tick(200);
            isAt(x, "on his way", 0, WITH_PORTER, NONE);
        }
        x.tick(119);
        isAt(x, "a tick too early", 0, WITH_PORTER, NONE);
        x.tick(1);
        isAt(x, "home", 0, HOME, 7);
        Due.is("its wait", x.waits(7, 2), 1120);
    }

    // ---- for long

    /** Long SINGLE WIRES, a slow CLERK, sales and coins for 200 TICKS and more. */
    private static FlyingChange longShop() {
        FlyingChange x = new FlyingChange();
        x.post(0, false, 20, 9, false);
        x.post(1, true, 17, 7, false);
        x.post(1, true, 13, 3, true);
        x.joint(1, 1, 3);
        x.joint(1, 0, 2);
        for (int i = 0; i < 8; i++) {
            x.cup(2 + i % 2);
            x.send(i, 1 + i, 2, 2);
        }
        x.clerk(7);
        for (int i = 0; i < 20; i++) {
            x.fetch(i % 6, 1 + i, 1 + (i * 199) / 19);
        }
        return x;
    }

    private static void promise16twoHundredAtOnce() {
        for (int later = 0; later < 2; later++) {
            FlyingChange x = longShop();
            FlyingChange y = longShop();
            if (later == 1) {
                x.tick(1);
                y.tick(1);
            }
            Due.is("200 at once", x.tick(200), 200 + later);
            for (int i = 0; i < 200; i++) {
                y.tick(1);
            }
            for (int cup = 0; cup < 8; cup++) {
                for (int what = 0; what <= 8; what++) {
                    Due.is("200 at once: cupAt(" + cup + ", " + what + ")", x.cupAt(cup, what), y.cupAt(cup, what));
                }
                Due.is("200 at once: coins(" + cup + ", 6)", x.coins(cup, 6), y.coins(cup, 6));
            }
            for (int kind = 0; kind < 6; kind++) {
                Due.is("200 at once: till(" + kind + ")", x.till(kind), y.till(kind));
            }
            int bells = y.bells();
            Due.is("200 at once: bells()", x.bells(), bells);
            for (int i = 0; i < bells; i++) {
                Due.is("200 at once: bell(" + i + ", true)", x.bell(i, true), y.bell(i, true));
            }
            Due.is("200 at once: waits", x.waits(2, 3) + x.waits(3, 3), y.waits(2, 3) + y.waits(3, 3));
        }
    }

    private static void promise18fourClerks() {
        FlyingChange x = new FlyingChange();
        x.post(0, true, 1, 1, true);
        for (int cup = 0; cup < 8; cup++) {
            x.cup(1);
        }
        for (int clerk = 0; clerk < 4; clerk++) {
            x.clerk(10 + clerk);
        }
        sendAll(x, 3, 2, 1, 0);
        x.tick(1);
        for (int cup = 0; cup < 4; cup++) {
            x.tick(1);
            for (int clerk = 0; clerk < 4; clerk++) {
                boolean has = clerk <= cup;
                Due.is("clerkAt(" + clerk + ", 0)", x.clerkAt(clerk, 0), has ? clerk : NONE);
                Due.is("clerkAt(" + clerk + ", 1)", x.clerkAt(clerk, 1), has ? 10 + clerk - (cup - clerk) : 0);
            }
            isAt(x, "with his clerk", cup, WITH_CLERK, cup);
            Due.is("with the clerks, so not in the row", x.row(0), NONE);
            Due.is("nothing to plan", x.worst(), NONE);
        }
        FlyingChange y = new FlyingChange();
        y.post(0, true, 1, 1, true);
        for (int cup = 0; cup < 4; cup++) {
            y.cup(1);
        }
        for (int clerk = 0; clerk < 4; clerk++) {
            y.clerk(20);
        }
        for (int cup = 3; cup >= 0; cup--) {
            sendAll(y, cup);
            y.tick(2);
            Due.is("the greatest cup has the first clerk", y.clerkAt(3 - cup, 0), cup);
            isAt(y, "with him", cup, WITH_CLERK, 3 - cup);
        }
    }

    /** A COUNTER on THE CAGE at LENGTH 1, with CUPS 0 and 1; CUP 0 was SENT at 0 and is in THE ROW still at a later TICK. */
    private static FlyingChange longInTheRow(int tick) {
        FlyingChange x = new FlyingChange();
        x.post(0, true, 1, 1, true);
        x.cup(1);
        x.cup(1);
        sendAll(x, 0);
        for (int t = 0; t < tick; t += 200) {
            x.tick(Math.min(200, tick - t));
        }
        return x;
    }

    private static void promise23longWaits() {
        for (int tick : new int[] {250, 300, 1000, 5000, 19997}) {
            FlyingChange x = longInTheRow(tick);
            Due.is("when it was sent", x.cupAt(0, 8), 0);
            Due.is("its stamp", x.cupAt(0, 2), 2);
            x.clerk(1);
            x.tick(3);
            isAt(x, "home", 0, HOME, 1);
            Due.is("the greatest wait", x.waits(1, 2), tick + 3);
            Due.is("all waits", x.waits(1, 3), tick + 3);
            if (tick < 15000) {
                sendAll(x, 0);
                x.tick(9);
                Due.is("the greatest wait of two", x.waits(1, 2), tick + 3);
                Due.is("all waits of two", x.waits(1, 3), tick + 3 + 4);
            }
        }
        FlyingChange y = longInTheRow(19000);
        Due.is("sent at 19000", y.send(1, 1, 0, 1), 0);
        Due.is("when it was sent", y.cupAt(1, 8), 19000);
        Due.is("its stamp", y.cupAt(1, 2), 19000);
        y.clerk(1);
        y.tick(9);
        Due.is("all waits", y.waits(1, 3), 19003 + 4);
        Due.is("the greatest", y.waits(1, 2), 19003);
    }

    private static void promise23twoCounters() {
        FlyingChange x = joint(1, 0, 2, 3, 4, 3);
        x.clerk(1);
        x.send(0, 6, 2, 1);
        x.send(1, 3, 1, 1);
        x.send(2, 10, 3, 1);
        x.send(3, 1, 4, 50);
        x.tick(30);
        int[] done = {1, 2, 1};
        int[] refused = {0, 1, 1};
        int[] handed = {0, 1500, 12};
        for (int i = 0; i < 3; i++) {
            Due.is("done with at " + (2 + i), x.waits(2 + i, 0), done[i]);
            Due.is("refused at " + (2 + i), x.waits(2 + i, 1), refused[i]);
            Due.is("handed out at " + (2 + i), x.waits(2 + i, 4), handed[i]);
        }
        Due.is("all waits: 6", x.waits(2, 3), 6);
        Due.is("all waits: 7 and 9", x.waits(3, 3), 16);
        Due.is("the greatest: 9", x.waits(3, 2), 9);
        Due.is("all waits: 8", x.waits(4, 3), 8);
    }

    private static void promise24longWaits() {
        FlyingChange x = longInTheRow(12000);
        x.send(1, 1, 0, 1);
        x.tick(2);
        x.clerk(30);
        Due.is("12002 + 30", x.worst(), 12032);
        Due.is("as they stand", x.worstBy(0), 12032);
        Due.is("the old one first", x.best(0), 0);
        FlyingChange y = new FlyingChange();
        y.post(0, true, 1, 1, true);
        for (int cup = 0; cup < 6; cup++) {
            y.cup(1);
        }
        sendAll(y, 0, 1, 2, 3, 4, 5);
        y.tick(9);
        y.clerk(30);
        Due.is("six after one another: 9 + 180", y.worst(), 189);
        Due.is("as they stand", y.worstBy(2), 189);
        for (int place = 0; place < 6; place++) {
            Due.is("all were sent together: by cups", y.best(place), place);
        }
    }

    private static void promise35lateBells() {
        FlyingChange x = chain(7);
        for (int way = 0; way < 30; way++) {
            sendAll(x, 0);
            x.tick(2);
            Due.is("way " + way + ": it has come to 7", x.mayBe(0), 1);
            x.tick(4);
            Due.is("way " + way + ": it has come to 3", x.mayBe(0), 5);
            x.tick(14);
            Due.is("way " + way + ": home", x.mayBe(0), STATE);
            Due.is("way " + way + ": bells", x.bells(), Math.min(300, 14 * (way + 1)));
        }
    }

    /** JOINTS 1, 2, 3, one below another, all of LENGTH 1, with COUNTERS 7, 6, 5; CUP 0 of 4, on 3, does not go. */
    private static void promise35bellsOfOtherJoints() {
        FlyingChange x = new FlyingChange();
        x.post(0, false, 1, 1, true);
        x.post(1, false, 1, 1, true);
        x.post(2, false, 1, 1, true);
        x.post(3, true, 1, 1, true);
        x.post(3, true, 1, 1, true);
        x.post(2, true, 1, 1, true);
        x.post(1, true, 1, 1, true);
        x.cup(4);
        for (int home = 5; home <= 7; home++) {
            x.cup(home);
            x.cup(home);
        }
        for (int wire = 1; wire <= 4; wire++) {
            x.cord(wire, false);
        }
        sendAll(x, 0);
        int[][] ringers = {{5, 6}, {3, 4}, {1, 2}};
        for (int i = 0; i < 3; i++) {
            sendAll(x, ringers[i]);
            x.tick(4);
            Due.is("it rings alone", x.bell(x.bells() - 1, false), 1 + i);
            Due.is("those that rang, from the highest on", x.bells(), 2 * (i + 1));
            Due.is("joint 3 is the first on its way: mayBe(0)", x.mayBe(0), i < 2 ? 0 : 1);
        }
        x.joint(3, 2, 1);
        Due.is("3 is silent, 2 rang, but 1 ahead of it alone", x.mayBe(0), 2);
        x.joint(2, 2, 1);
        Due.is("3 and 2 are silent, 1 rang at 2 and 3", x.mayBe(0), 4);
        FlyingChange y = new FlyingChange();
        for (int i = 1; i <= 4; i++) {
            y.post(i - 1, i == 4, 1, 1, true);
        }
        y.cup(4);
        y.cup(4);
        y.cup(4);
        y.cord(3, false);
        for (int cup = 0; cup < 3; cup++) {
            sendAll(y, cup);
            y.tick(5);
            Due.is("3 rang, again and again", y.bells(), cup + 1);
            Due.is("so it may be there, and no farther", y.mayBe(0), 1);
            Due.is("the latest, too", y.mayBe(cup), 1);
        }
    }

    private static void promise36greatSums() {
        FlyingChange x = new FlyingChange();
        x.post(0, true, 1, 1, true);
        x.clerk(1);
        for (int cup = 0; cup < 24; cup++) {
            x.cup(1);
            x.send(cup, 1, 5, 50);
        }
        Due.is("paid in", x.total(5), 72000);
        Due.is("in cups", x.total(7), 72000);
        x.tick(60);
        Due.is("all are refused, and handed out", x.total(6), 72000);
        Due.is("at their counter", x.waits(1, 4), 72000);
        Due.is("refused", x.waits(1, 1), 24);
        Due.is("nothing is left", x.total(7), 0);
        for (int cup = 0; cup < 24; cup++) {
            x.send(cup, 3000, 5, 50);
        }
        x.tick(60);
        Due.is("paid in", x.total(5), 144000);
        Due.is("no more is handed out", x.total(6), 72000);
        Due.is("in the drawer", x.till(6), 72000);
        Due.is("of 60", x.till(5), 1200);
        Due.is("none is refused", x.waits(1, 1), 24);
        Due.is("done with", x.waits(1, 0), 48);
    }
}
