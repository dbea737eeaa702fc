/** The most of each thing: the last that still fits, the first that doesn't, and what is empty. */
public final class FullTest extends Shops {
    public static void main(String[] args) {
        promise1emptyShop();
        promise2sixteenPosts();
        promise2sixteenOnOneWay();
        promise2theSixteenthPost();
        promise6twentyFourCups();
        promise6theTwentyFourthCup();
        promise7fourClerks();
        promise7theFourthClerk();
        promise9drawerIsNeverFull();
        promise10twentyFetched();
        promise10twentyOfManyTicks();
        promise15fullCup();
        promise16lastTick();
        promise17fullRow();
        promise24sixInTheRow();
        promise24fromSevenToNone();
        promise27everyCounterSendsTheMost();
        promise33theThreeHundredthBell();
        promise33threeHundredAtOneTick();
        promise35bellsThatAreGone();
        fiveHundredAndTwelveCalls();
        Due.end();
    }

    private static void promise1emptyShop() {
        FlyingChange x = new FlyingChange();
        Due.is("the cage hangs on nothing", x.about(0, 0), NONE);
        Due.is("the cage", x.about(0, 1), 0);
        for (int what = 2; what <= 5; what++) {
            Due.is("the cage has no wire: about(0, " + what + ")", x.about(0, what), NONE);
        }
        Due.is("wires: cord", x.cord(0, true), UNKNOWN);
        Due.is("cups: send", x.send(0, 1, 0, 1), UNKNOWN);
        Due.is("cups: resend", x.resend(0), UNKNOWN);
        Due.is("cups: porter", x.porter(0), UNKNOWN);
        Due.is("cups: coins", x.coins(0, 0), UNKNOWN);
        Due.is("cups: mayBe", x.mayBe(0), UNKNOWN);
        Due.is("wires: on", x.on(0, true), UNKNOWN);
        Due.is("counters: waits", x.waits(0, 0), STATE);
        Due.is("counters: rush", x.rush(0, 0, 0), STATE);
        Due.is("row: worst()", x.worst(), NONE);
        Due.is("row: best(0)", x.best(0), NONE);
        Due.is("row: worstBy(0)", x.worstBy(0), NONE);
        Due.is("row: row(0)", x.row(0), NONE);
        Due.is("wires: load", x.load(0, 0), UNKNOWN);
        Due.is("wires: lines", x.lines(0), UNKNOWN);
        Due.is("wires: wanted()", x.wanted(), 0);
        Due.is("wires: vital(0)", x.vital(0), NONE);
        Due.is("wires: loss", x.loss(0, 0), UNKNOWN);
        Due.is("bells: bell(0, false)", x.bell(0, false), NONE);
        Due.is("drawer: could(0)", x.could(0), 0);
        Due.is("drawer: gives(0, 0)", x.gives(0, 0), 0);
        Due.is("drawer: could(1)", x.could(1), NONE);
        Due.is("drawer: gives(1, 0)", x.gives(1, 0), NONE);
        Due.is("the order is first", x.order(0), 0);
        Due.is("an empty shop ticks", x.tick(200), 200);
    }

    private static void promise2sixteenPosts() {
        for (int sort = 0; sort < 2; sort++) {
            boolean counter = sort == 1;
            FlyingChange x = new FlyingChange();
            for (int i = 1; i < 15; i++) {
                Due.is("post " + i, x.post(0, counter, 1, 1, false), i);
            }
            Due.is("15 are there", x.total(0), 15);
            Due.is("the last that fits", x.post(0, counter, 20, 10, true), 15);
            Due.is("no more counters", x.post(0, true, 1, 1, false), FULL);
            Due.is("no more joints", x.post(0, false, 1, 1, false), FULL);
            Due.is("16 are there", x.total(0), 16);
            Due.is("the last is as it was told: length", x.about(15, 2), 20);
            Due.is("the last is as it was told: gap", x.about(15, 3), 10);
            Due.is("the last is as it was told: sort", x.about(15, 1), 1 + sort);
            Due.is("there is no other", x.about(16, 1), UNKNOWN);
            Due.is("it hangs on the cage", x.about(15, 0), 0);
        }
    }

    private static void promise2sixteenOnOneWay() {
        FlyingChange x = chain(14);
        Due.is("there is no room below", x.post(14, true, 1, 1, true), FULL);
        x.rush(15, 0, 300);
        for (int wire = 1; wire <= 15; wire++) {
            Due.is("it lies below " + wire, x.load(wire, 0), 300);
        }
        x.send(0, 1, 0, 1);
        x.tick(15);
        Due.is("a tick ahead of the cage", x.cupAt(0, 1), 1);
        Due.is("14 rang", x.mayBe(0), 14);
        x.tick(1);
        Due.is("it is with the clerk", x.cupAt(0, 0), 4);
        Due.is("to the cage", x.mayBe(0), 15);
        x.tick(15);
        Due.is("a tick ahead of its home", x.cupAt(0, 1), 15);
        x.tick(1);
        Due.is("it is home", x.cupAt(0, 0), 0);
        Due.is("its wait", x.waits(15, 2), 32);
        Due.is("14 rang twice", x.bells(), 28);
    }

    private static void promise6twentyFourCups() {
        FlyingChange x = new FlyingChange();
        x.post(0, true, 1, 1, false);
        x.post(0, true, 1, 1, false);
        for (int i = 0; i < 23; i++) {
            Due.is("cup " + i, x.cup(1 + i % 2), i);
        }
        Due.is("23 are there", x.total(1), 23);
        Due.is("the last that fits", x.cup(2), 23);
        Due.is("no more of 1", x.cup(1), FULL);
        Due.is("no more of 2", x.cup(2), FULL);
        Due.is("24 are there", x.total(1), 24);
        for (int i = 0; i < 24; i++) {
            Due.is("home of " + i, x.cupAt(i, 5), i == 23 ? 2 : 1 + i % 2);
            Due.is("send " + i, x.send(i, 1, 0, 1), 0);
        }
        Due.is("there is no other", x.send(24, 1, 0, 1), UNKNOWN);
        Due.is("none is home", x.total(3), 24);
    }

    /** JOINT 14 with COUNTER 15 alone on it; COUNTERS 1 .. 13 on THE CAGE; JOINT 14 is the last of its CHILDREN. */
    private static void promise2theSixteenthPost() {
        FlyingChange x = new FlyingChange();
        for (int i = 1; i <= 15; i++) {
            x.post(i == 15 ? 14 : 0, i != 14, 1, 1, true);
        }
        x.cup(15);
        x.clerk(1);
        x.joint(14, 1, 2);
        for (int way = 1; way <= 2; way++) {
            x.send(0, 1, 0, 1);
            x.tick(2);
            Due.is("on the wire of the joint, by the catch of its last child", x.cupAt(0, 1), 14);
            x.tick(4);
            Due.is("home by the joint's only child, way " + way, x.cupAt(0, 1), 15);
            Due.is("home, way " + way, x.cupAt(0, 0), 0);
        }
        x.rush(15, 4, 3);
        Due.is("of 14 and 15 the least is vital", x.vital(4), 14);
        Due.is("loss of 15", x.loss(15, 4), 12);
        FlyingChange y = new FlyingChange();
        y.post(0, false, 1, 1, true);
        for (int i = 2; i <= 15; i++) {
            y.post(1, true, i == 15 ? 2 : 1, 1, true);
        }
        y.cup(14);
        y.clerk(1);
        y.joint(1, 1, 2);
        y.send(0, 1, 0, 1);
        y.tick(6);
        Due.is("the first is home", y.cupAt(0, 0), 0);
        y.send(0, 1, 0, 1);
        y.tick(7);
        Due.is("the second is stray at the last post", y.cupAt(0, 0), 5);
        Due.is("the second is stray at the last post", y.cupAt(0, 1), 15);
        y.rush(15, 2, 10);
        y.rush(14, 2, 10);
        Due.is("the last wire is vital for itself, and less than the joint's", y.vital(2), 1);
        FlyingChange z = new FlyingChange();
        for (int i = 1; i <= 15; i++) {
            z.post(0, true, 1, 1, true);
        }
        z.rush(15, 0, 300);
        z.rush(14, 0, 299);
        Due.is("the last wire is vital", z.vital(0), 15);
        z.rush(15, 1, 300);
        Due.is("it wants a line", z.lines(15), 1);
        Due.is("fifteen lines", z.wanted(), 15);
    }

    private static void promise6theTwentyFourthCup() {
        FlyingChange x = new FlyingChange();
        x.post(0, true, 3, 1, true);
        for (int i = 0; i < 24; i++) {
            x.cup(1);
        }
        Due.is("sent", x.send(23, 7, 3, 1), 5);
        Due.is("what is in it", x.total(7), 12);
        Due.is("it is not home", x.total(3), 1);
        x.tick(1);
        Due.is("it is on the wire", x.on(1, true), 1);
        x.tick(3);
        Due.is("it stands in the row", x.row(0), 23);
        x.clerk(1);
        x.tick(1);
        Due.is("the clerk takes it", x.clerkAt(0, 0), 23);
        x.tick(1);
        Due.is("it goes down", x.on(1, false), 1);
        x.cord(1, false);
        Due.is("a porter", x.porter(23), 7);
        Due.is("he takes it from the wire", x.on(1, false), 0);
        x.tick(1);
        Due.is("home", x.cupAt(23, 0), 0);
        Due.is("its wait", x.waits(1, 2), 7);
        Due.is("all are home", x.total(3), 0);
        Due.is("nothing is in it", x.total(7), 0);
    }

    private static void promise7fourClerks() {
        FlyingChange x = new FlyingChange();
        for (int i = 0; i < 3; i++) {
            Due.is("clerk " + i, x.clerk(30 - i), i);
        }
        Due.is("three are there", x.total(4), 3);
        Due.is("the last that fits", x.clerk(1), 3);
        Due.is("no more", x.clerk(1), FULL);
        Due.is("four are there", x.total(4), 4);
        for (int i = 0; i < 4; i++) {
            Due.is("the ticks of " + i, x.clerkAt(i, 2), i == 3 ? 1 : 30 - i);
        }
        Due.is("there is no other", x.clerkAt(4, 2), UNKNOWN);
    }

    private static void promise7theFourthClerk() {
        FlyingChange x = rowOf(6);
        for (int i = 0; i < 3; i++) {
            x.clerk(20);
        }
        x.clerk(2);
        Due.is("done in 20, 20, 20, 2, 4, 6", x.worst(), 7 + 20);
        Due.is("as they stand", x.worstBy(0), 7 + 20);
        x.tick(1);
        for (int i = 0; i < 4; i++) {
            Due.is("each has one: " + i, x.clerkAt(i, 0), i);
        }
        Due.is("two are left: done in 4, 6 by the fourth", x.worst(), 8 + 6);
        Due.is("by the order too", x.worstBy(2), 8 + 6);
        x.tick(2);
        Due.is("the fourth is done", x.cupAt(3, 0), 2);
        Due.is("and takes the next", x.clerkAt(3, 0), 4);
        x.tick(18);
        Due.is("he has had all", x.row(0), NONE);
        Due.is("the first is done by then", x.clerkAt(0, 0), NONE);
    }

    private static void promise9drawerIsNeverFull() {
        FlyingChange x = new FlyingChange();
        x.post(0, true, 1, 1, true);
        x.cup(1);
        x.clerk(1);
        x.drawer(0, 1000);
        x.fetch(0, 100, 1);
        x.tick(1);
        Due.is("more than are told come by fetching", x.till(0), 1100);
        x.send(0, 50, 0, 50);
        x.tick(3);
        Due.is("and by a sale", x.till(0), 1150);
        Due.is("they are all asked for", x.could(1150), 1150);
        Due.is("there are no more", x.could(1151), NONE);
        Due.is("told anew, was", x.drawer(0, 1000), 1150);
    }

    private static void promise10twentyFetched() {
        FlyingChange x = new FlyingChange();
        for (int i = 0; i < 19; i++) {
            Due.is("fetch " + i, x.fetch(0, 1, 2), 2);
        }
        Due.is("the last that fits", x.fetch(5, 100, 200), 200);
        Due.is("one too many", x.fetch(0, 1, 1), FULL);
        Due.is("one too many, of another kind", x.fetch(3, 100, 200), FULL);
        x.tick(1);
        Due.is("one tick on, still one too many", x.fetch(0, 1, 1), FULL);
        Due.is("none is there", x.till(6), 0);
        x.tick(1);
        Due.is("19 are there", x.till(6), 19);
        for (int i = 0; i < 19; i++) {
            Due.is("fetch again " + i, x.fetch(1, 2, 3), 5);
        }
        Due.is("one too many again", x.fetch(1, 2, 3), FULL);
        x.tick(3);
        Due.is("38 are there", x.till(1), 38);
        Due.is("the last is not", x.till(5), 0);
        x.tick(194);
        Due.is("a tick ahead", x.till(5), 0);
        x.tick(1);
        Due.is("the last is there", x.till(5), 100);
    }

    private static void promise10twentyOfManyTicks() {
        FlyingChange x = new FlyingChange();
        for (int i = 20; i >= 1; i--) {
            Due.is("fetch in " + i, x.fetch(i % 6, i, i), i);
        }
        int[] due = new int[6];
        for (int t = 1; t <= 20; t++) {
            Due.is("full ahead of tick " + t, x.fetch(0, 100, 200), FULL);
            x.tick(1);
            due[t % 6] += t;
            Due.is("till(" + t % 6 + ") at " + t, x.till(t % 6), due[t % 6]);
            Due.is("one fits at " + t, x.fetch(5, 1, 200), t + 200);
        }
        Due.is("no second one", x.fetch(5, 1, 200), FULL);
    }

    private static void promise15fullCup() {
        FlyingChange x = new FlyingChange();
        x.post(0, true, 1, 1, true);
        x.cup(1);
        Due.is("empty", x.coins(0, 6), 0);
        x.send(0, 1, 5, 50);
        Due.is("fifty", x.coins(0, 5), 50);
        Due.is("what they are worth", x.coins(0, 6), 3000);
        x.clerk(1);
        x.drawer(0, 1000);
        x.drawer(1, 1000);
        x.drawer(2, 1000);
        x.tick(3);
        Due.is("2999 by 49 of 60, the rest of 6, 3, 1", x.coins(0, 5), 49);
        Due.is("of 6", x.coins(0, 2), 9);
        Due.is("of 3", x.coins(0, 1), 1);
        Due.is("of 1", x.coins(0, 0), 2);
        Due.is("all", x.coins(0, 6), 2999);
        x.tick(1);
        Due.is("empty again", x.coins(0, 6), 0);
        Due.is("handed out", x.waits(1, 4), 2999);
    }

    private static FlyingChange atTick(int tick) {
        FlyingChange x = new FlyingChange();
        for (int t = 200; t <= tick; t += 200) {
            x.tick(200);
        }
        if (tick % 200 != 0) {
            x.tick(tick % 200);
        }
        return x;
    }

    private static void promise16lastTick() {
        Due.is("200 to 20000", atTick(19800).tick(200), 20000);
        Due.is("200 above it", atTick(19801).tick(200), FULL);
        Due.is("1 to 20000", atTick(19999).tick(1), 20000);
        Due.is("2 above it", atTick(19999).tick(2), FULL);
        FlyingChange x = atTick(20000);
        Due.is("the last tick", x.total(2), 20000);
        Due.is("1 above it", x.tick(1), FULL);
        Due.is("200 above it", x.tick(200), FULL);
        Due.is("it stays", x.total(2), 20000);
        Due.is("what is fetched comes behind it", x.fetch(0, 1, 200), 20200);
        x.post(0, true, 1, 1, true);
        x.cup(1);
        x.send(0, 1, 0, 1);
        Due.is("a cup is sent at the last tick", x.cupAt(0, 8), 20000);
        Due.is("it waits", x.cupAt(0, 2), 20000);
    }

    /** CUPS 0 .. of COUNTER 1, SENT at 0, which come to THE ROW a tick after one another; CUP c at TICK 2 + c. */
    private static FlyingChange rowOf(int cups) {
        FlyingChange x = new FlyingChange();
        x.post(0, true, 1, 1, true);
        for (int i = 0; i < cups; i++) {
            x.cup(1);
            x.send(i, 1, 0, 1);
        }
        x.tick(cups + 1);
        return x;
    }

    private static void promise17fullRow() {
        FlyingChange x = rowOf(24);
        for (int rule = 0; rule < 3; rule++) {
            x.order(rule);
            for (int i = 0; i < 24; i++) {
                Due.is("order " + rule + ": row(" + i + ")", x.row(i), i);
            }
            Due.is("order " + rule + ": row(24)", x.row(24), NONE);
        }
    }

    private static void promise24sixInTheRow() {
        for (int cups = 1; cups <= 8; cups++) {
            FlyingChange x = rowOf(cups);
            x.clerk(10);
            boolean fits = cups <= 6;
            int worst = fits ? cups + 1 + 10 * cups : STATE;
            Due.is(cups + " in the row: worst()", x.worst(), worst);
            for (int rule = 0; rule < 3; rule++) {
                Due.is(cups + " in the row: worstBy(" + rule + ")", x.worstBy(rule), worst);
            }
            for (int place = 0; place < cups; place++) {
                Due.is(cups + " in the row: best(" + place + ")", x.best(place), fits ? place : STATE);
            }
            Due.is(cups + " in the row, none at that place", fits ? x.best(cups) : NONE, NONE);
            Due.is(cups + " in the row: worstBy(3)", x.worstBy(3), OUTSIDE);
        }
    }

    private static void promise24fromSevenToNone() {
        FlyingChange x = rowOf(8);
        Due.is("no clerks", x.worst(), NONE);
        x.clerk(1);
        Due.is("eight", x.worst(), STATE);
        x.tick(1);
        Due.is("one is taken, seven", x.worst(), STATE);
        Due.is("seven: best(0)", x.best(0), STATE);
        Due.is("seven: worstBy(2)", x.worstBy(2), STATE);
        for (int left = 6; left >= 1; left--) {
            x.tick(1);
            Due.is(left + " are left", x.worst(), x.total(2) + 1 + left);
            Due.is(left + " are left: best(0)", x.best(0), 8 - left);
            Due.is(left + " are left: the last", x.best(left - 1), 7);
            Due.is(left + " are left: behind the last", x.best(left), NONE);
        }
        x.tick(1);
        Due.is("none is left: worst()", x.worst(), NONE);
        Due.is("none is left: best(0)", x.best(0), NONE);
        Due.is("none is left: worstBy(0)", x.worstBy(0), NONE);
        Due.is("none is left: row(0)", x.row(0), NONE);
    }

    private static void promise27everyCounterSendsTheMost() {
        FlyingChange x = new FlyingChange();
        x.post(0, false, 20, 10, true);
        for (int i = 2; i < 16; i++) {
            x.post(1, true, 20, 10, true);
            x.rush(i, 5, 300);
        }
        Due.is("14 times 300", x.load(1, 5), 4200);
        Due.is("4200 times 10 by 720 is 58 and more", x.lines(1), 118);
        Due.is("300 times 10 by 720 is 4 and more", x.lines(15), 10);
        Due.is("all lengths", x.wanted(), 20 * (118 + 14 * 10));
        Due.is("4 times 4200 times 20", x.loss(1, 5), 336000);
        Due.is("the greatest", x.vital(5), 1);
        Due.is("in no other hour", x.vital(4), NONE);
    }

    private static void promise33theThreeHundredthBell() {
        FlyingChange x = chain(8);
        for (int i = 0; i < 18; i++) {
            x.send(0, 1, 0, 1);
            x.tick(20);
        }
        x.send(0, 1, 0, 1);
        x.tick(1);
        Due.is("18 ways of 16", x.bells(), 288);
        for (int i = 1; i <= 8; i++) {
            x.tick(1);
            Due.is("one more on its way up", x.bells(), 288 + i);
        }
        x.tick(3);
        for (int i = 9; i <= 11; i++) {
            Due.is("one more on its way down", x.bells(), 288 + i);
            Due.is("the oldest is kept: joint", x.bell(0, false), 8);
            Due.is("the oldest is kept: tick", x.bell(0, true), 2);
            Due.is("the latest: joint", x.bell(287 + i, false), i - 8);
            Due.is("the latest: tick", x.bell(287 + i, true), 363 + i);
            Due.is("behind the latest", x.bell(288 + i, true), NONE);
            x.tick(1);
        }
        Due.is("the 300th", x.bells(), 300);
        Due.is("the oldest is kept still: joint", x.bell(0, false), 8);
        Due.is("the oldest is kept still: tick", x.bell(0, true), 2);
        Due.is("the 300th: joint", x.bell(299, false), 4);
        Due.is("the 300th: tick", x.bell(299, true), 375);
        x.tick(1);
        Due.is("the 301st", x.bells(), 300);
        Due.is("the oldest is gone: joint", x.bell(0, false), 7);
        Due.is("the oldest is gone: tick", x.bell(0, true), 3);
        Due.is("the 301st: joint", x.bell(299, false), 5);
        Due.is("the 301st: tick", x.bell(299, true), 376);
        Due.is("there is no more", x.bell(300, false), NONE);
        x.tick(1);
        Due.is("the 302nd", x.bells(), 300);
        Due.is("two are gone: joint", x.bell(0, false), 6);
        Due.is("two are gone: tick", x.bell(0, true), 4);
        Due.is("the 302nd: joint", x.bell(299, false), 6);
    }

    /** 7 JOINTS 1 .. 7 with a COUNTER and a CUP each: they ring at 2, 5 and 6 of 10, by CUPS, whose JOINTS fall from 7. */
    private static void promise33threeHundredAtOneTick() {
        FlyingChange x = new FlyingChange();
        for (int i = 0; i < 7; i++) {
            x.post(0, false, 1, 1, true);
        }
        for (int i = 0; i < 7; i++) {
            x.post(7 - i, true, 1, 1, true);
            x.cup(8 + i);
        }
        for (int i = 0; i < 4; i++) {
            x.clerk(1);
        }
        for (int way = 0; way < 22; way++) {
            for (int cup = 0; cup < 7; cup++) {
                x.send(cup, 1, 0, 1);
            }
            x.tick(10);
        }
        Due.is("22 times 14 are more", x.bells(), 300);
        Due.is("the first of those that are kept: joint", x.bell(0, false), 6);
        Due.is("the first of those that are kept: tick", x.bell(0, true), 5);
        Due.is("of the second way: joint", x.bell(6, false), 7);
        Due.is("of the second way: tick", x.bell(6, true), 12);
        Due.is("by cups at one tick", x.bell(12, false), 1);
        Due.is("at one tick", x.bell(12, true), 12);
        Due.is("the latest", x.bell(299, true), 216);
        Due.is("the latest, by cups", x.bell(299, false), 1);
    }

    private static void promise35bellsThatAreGone() {
        FlyingChange x = chain(8);
        x.post(1, true, 1, 1, true);
        x.cup(10);
        x.send(0, 1, 0, 1);
        x.tick(2);
        x.cord(8, false);
        Due.is("it rang at 8", x.bell(0, false), 8);
        for (int i = 0; i < 149; i++) {
            x.send(1, 1, 0, 1);
            x.tick(6);
        }
        Due.is("299", x.bells(), 299);
        x.send(1, 1, 0, 1);
        x.tick(2);
        Due.is("300", x.bells(), 300);
        Due.is("the bell of 8 is the oldest", x.mayBe(0), 1);
        x.tick(2);
        Due.is("300 still", x.bells(), 300);
        Due.is("a tick ahead of the next, it is kept", x.mayBe(0), 1);
        x.tick(1);
        Due.is("it is gone", x.mayBe(0), 0);
        Due.is("the oldest is another's", x.bell(0, false), 1);
    }

    private static void fiveHundredAndTwelveCalls() {
        FlyingChange x = new FlyingChange();
        for (int i = 1; i < 512; i++) {
            Due.is("call " + i + ": tick(1)", x.tick(1), i);
        }
        Due.is("call 512: total(2)", x.total(2), 511);
        FlyingChange y = rowOf(6);
        y.clerk(7);
        y.drawer(3, 3);
        y.drawer(4, 1);
        int calls = 1 + 2 * 6 + 1 + 3;
        for (; calls + 4 <= 512; calls += 4) {
            Due.is("behind call " + calls + ": worst()", y.worst(), 7 + 42);
            Due.is("behind call " + calls + ": best(5)", y.best(5), 5);
            Due.is("behind call " + calls + ": worstBy(2)", y.worstBy(2), 7 + 42);
            Due.is("behind call " + calls + ": could(36)", y.could(36), 3);
        }
        FlyingChange z = oneWayAndBack();
        for (int way = 0; way < 253; way++) {
            Due.is("way " + way + ": send", z.send(0, 1, 0, 1), 0);
            Due.is("way " + way + ": tick", z.tick(4), 4 * way + 4);
        }
        Due.is("253 are done with", z.waits(1, 0), 253);
        Due.is("all waits together", z.waits(1, 3), 4 * 253);
        Due.is("all lie in the drawer", z.till(0), 253);
    }

    /** Three calls; a CUP is HOME again 4 ticks after it was SENT. */
    private static FlyingChange oneWayAndBack() {
        FlyingChange x = new FlyingChange();
        x.post(0, true, 1, 1, true);
        x.cup(1);
        x.clerk(1);
        return x;
    }
}
