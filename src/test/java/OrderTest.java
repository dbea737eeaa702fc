/** Promises 23 to 26: WAITS and THE BEST ORDER. */
public final class OrderTest extends Shops {
    public static void main(String[] args) {
        promise23waits();
        promise23refusals();
        promise24worst();
        promise24toPromise26ofAnEmptyRow();
        promise24toPromise26ofTooMany();
        promise25best();
        promise25bestByCups();
        promise25bestOfSix();
        promise25allOrders();
        promise26worstBy();
        promise26workingClerks();
        Due.end();
    }

    private static void areWaits(FlyingChange x, int counter, int... due) {
        for (int what = 0; what < due.length; what++) {
            Due.is("waits(" + counter + ", " + what + ")", x.waits(counter, what), due[what]);
        }
    }

    private static void promise23waits() {
        FlyingChange x = new FlyingChange();
        x.post(0, true, 1, 1, true);
        x.post(0, true, 2, 1, true);
        x.cup(1);
        x.cup(1);
        x.cup(2);
        x.clerk(1);
        areWaits(x, 1, 0, 0, NONE, 0, 0);
        x.send(0, 6, 2, 1);
        x.tick(4);
        areWaits(x, 1, 1, 0, 4, 4, 0);
        x.send(0, 5, 2, 1);
        x.drawer(2, 0);
        x.tick(2);
        x.send(1, 2, 1, 1);
        x.tick(2);
        areWaits(x, 1, 2, 1, 4, 8, 6);
        x.cord(1, false);
        x.tick(3);
        x.cord(1, true);
        x.tick(5);
        areWaits(x, 1, 3, 2, 7, 15, 9);
        areWaits(x, 2, 0, 0, NONE, 0, 0);
        x.drawer(0, 5);
        x.send(2, 1, 1, 1);
        x.tick(6);
        areWaits(x, 2, 1, 0, 6, 6, 2);
    }

    private static void promise23refusals() {
        FlyingChange x = new FlyingChange();
        x.post(0, false, 1, 1, true);
        x.post(1, true, 1, 1, true);
        Due.is("of none", x.waits(3, 0), UNKNOWN);
        Due.is("of -1", x.waits(-1, 9), UNKNOWN);
        Due.is("of the cage", x.waits(0, 0), STATE);
        Due.is("of a joint, what = 5", x.waits(1, 5), STATE);
        Due.is("waits(2, 5)", x.waits(2, 5), OUTSIDE);
        Due.is("waits(2, -1)", x.waits(2, -1), OUTSIDE);
    }

    /**
     * COUNTERS 1, 2, 3 on THE CAGE, LENGTH 1; CUPS 0, 1, 2 have the HOMES told, and are SENT at the TICKS told, which
     * are ahead of 15; THE TICK is 20, and there are no CLERKS.
     */
    private static FlyingChange row(int[] homes, int[] sent) {
        FlyingChange x = new FlyingChange();
        for (int i = 0; i < 3; i++) {
            x.post(0, true, 1, 1, false);
        }
        for (int home : homes) {
            x.cup(home);
        }
        for (int t = 0; t < 20; t++) {
            for (int c = 0; c < sent.length; c++) {
                if (sent[c] == t) {
                    x.send(c, 1, 0, 1);
                }
            }
            x.tick(1);
        }
        return x;
    }

    private static void isBest(FlyingChange x, String when, int... cups) {
        for (int i = 0; i < cups.length; i++) {
            Due.is(when + ": best(" + i + ")", x.best(i), cups[i]);
        }
        Due.is(when + ": best(-1)", x.best(-1), NONE);
        Due.is(when + ": best(" + cups.length + ")", x.best(cups.length), NONE);
    }

    private static void promise24worst() {
        FlyingChange x = row(new int[] {3, 2, 1}, new int[] {0, 5, 9});
        x.clerk(10);
        Due.is("one clerk: 11 + 30", x.worst(), 41);
        x.clerk(30);
        Due.is("two clerks: done in 10, 30, 20", x.worst(), 11 + 30);
        x.clerk(1);
        Due.is("three clerks: done in 10, 30, 1", x.worst(), 11 + 30);
        x.clerk(1);
        Due.is("to ask changes nothing", x.row(0), 0);
        Due.is("nor the tick", x.total(2), 20);
    }

    private static void promise24toPromise26ofAnEmptyRow() {
        FlyingChange x = new FlyingChange();
        Due.is("no row, no clerks: worst()", x.worst(), NONE);
        Due.is("no row, no clerks: best(0)", x.best(0), NONE);
        Due.is("no row, no clerks: worstBy(0)", x.worstBy(0), NONE);
        Due.is("no row, no clerks: worstBy(3)", x.worstBy(3), OUTSIDE);
        x.clerk(5);
        Due.is("no row: worst()", x.worst(), NONE);
        Due.is("no row: best(0)", x.best(0), NONE);
        Due.is("no row: worstBy(2)", x.worstBy(2), NONE);
        FlyingChange y = row(new int[] {1}, new int[] {3});
        Due.is("no clerks: worst()", y.worst(), NONE);
        Due.is("no clerks: best(0)", y.best(0), NONE);
        Due.is("no clerks: worstBy(1)", y.worstBy(1), NONE);
        y.clerk(4);
        Due.is("one of one: worst()", y.worst(), 21);
        isBest(y, "one of one", 0);
    }

    private static void promise24toPromise26ofTooMany() {
        int[] homes = {1, 2, 3, 1, 2, 3, 1};
        FlyingChange x = row(homes, new int[] {0, 0, 0, 4, 4, 4, 8});
        Due.is("no clerks is told first: worst()", x.worst(), NONE);
        Due.is("no clerks is told first: best(0)", x.best(0), NONE);
        Due.is("no clerks is told first: worstBy(0)", x.worstBy(0), NONE);
        x.clerk(2);
        Due.is("seven: worst()", x.worst(), STATE);
        Due.is("seven: best(0)", x.best(0), STATE);
        Due.is("seven: best(6)", x.best(6), STATE);
        Due.is("seven: worstBy(0)", x.worstBy(0), STATE);
        Due.is("seven: worstBy(-1)", x.worstBy(-1), OUTSIDE);
        x.tick(1);
        Due.is("six, done in 4 .. 14: 17 + 12 of the last that was sent at 4", x.worst(), 29);
        Due.is("six, as they are: 17 + 12", x.worstBy(1), 29);
        Due.is("near: 3, 6, 1, 4, 2, 5: 21 + 12 of the last but one", x.worstBy(2), 33);
    }

    private static void promise25best() {
        FlyingChange x = row(new int[] {1, 2, 3}, new int[] {9, 5, 0});
        x.clerk(10);
        Due.is("worst()", x.worst(), 41);
        isBest(x, "the youngest last, the others by number", 1, 2, 0);
    }

    private static void promise25bestByCups() {
        FlyingChange x = row(new int[] {3, 2, 1}, new int[] {0, 5, 9});
        x.clerk(10);
        x.clerk(30);
        isBest(x, "two clerks: done in 10, 30, 20", 0, 2, 1);
        FlyingChange y = row(new int[] {1, 2, 3}, new int[] {9, 5, 0});
        y.clerk(10);
        y.clerk(30);
        isBest(y, "two clerks: the youngest in the middle", 1, 0, 2);
        FlyingChange z = row(new int[] {3, 2, 1}, new int[] {4, 4, 4});
        z.clerk(7);
        isBest(z, "all are like: by number", 0, 1, 2);
    }

    private static void promise25bestOfSix() {
        FlyingChange x = row(new int[] {1, 2, 3, 1, 2, 3}, new int[] {13, 10, 7, 5, 3, 0});
        x.clerk(10);
        Due.is("done in 10 .. 60; 7 + 60", x.worst(), 67);
        isBest(x, "by number, as far as none is above 67", 1, 2, 3, 5, 4, 0);
        FlyingChange y = row(new int[] {1, 2, 3, 1, 2, 3}, new int[] {0, 3, 5, 7, 10, 13});
        y.clerk(1);
        Due.is("done in 1 .. 6", y.worst(), 21);
        isBest(y, "the oldest first", 0, 1, 2, 3, 4, 5);
    }

    /** The greatest WAIT and all together, if CUPS are taken in an order: each by him who is free first, of like ones the least. */
    private static int[] waitsOf(int[] order, int[] waited, int[] left, int[] needs) {
        int[] free = left.clone();
        int[] waits = new int[2];
        for (int cup : order) {
            int clerk = 0;
            for (int k = 1; k < free.length; k++) {
                clerk = free[k] < free[clerk] ? k : clerk;
            }
            free[clerk] += needs[clerk];
            waits[0] = Math.max(waits[0], waited[cup] + free[clerk]);
            waits[1] += waited[cup] + free[clerk];
        }
        return waits;
    }

    /** Goes on with an order that has so many places, by CUPS, and keeps the first best one. */
    private static void allOrders(int[] order, int place, int[] best, int[] waited, int[] left, int[] needs) {
        if (place == order.length) {
            int[] is = waitsOf(order, waited, left, needs);
            int[] was = waitsOf(best, waited, left, needs);
            if (is[0] < was[0] || is[0] == was[0] && is[1] < was[1]) {
                System.arraycopy(order, 0, best, 0, place);
            }
            return;
        }
        for (int cup = 0; cup < order.length; cup++) {
            boolean taken = false;
            for (int i = 0; i < place; i++) {
                taken |= order[i] == cup;
            }
            if (!taken) {
                order[place] = cup;
                allOrders(order, place + 1, best, waited, left, needs);
            }
        }
    }

    private static void isBestOfAll(FlyingChange x, String when, int cups, int clerks) {
        int[] waited = new int[cups];
        int[] inTurn = new int[cups];
        int first = x.total(1) - cups;
        for (int i = 0; i < cups; i++) {
            waited[i] = x.total(2) - x.cupAt(first + i, 8);
            inTurn[i] = i;
        }
        int[] left = new int[clerks];
        int[] needs = new int[clerks];
        for (int k = 0; k < clerks; k++) {
            left[k] = x.clerkAt(k, 1);
            needs[k] = x.clerkAt(k, 2);
        }
        int[] best = inTurn.clone();
        allOrders(new int[cups], 0, best, waited, left, needs);
        Due.is(when + ": worst()", x.worst(), waitsOf(best, waited, left, needs)[0]);
        for (int i = 0; i < cups; i++) {
            Due.is(when + ": best(" + i + ")", x.best(i), first + best[i]);
        }
        for (int rule = 0; rule <= 2; rule++) {
            x.order(rule);
            for (int i = 0; i < cups; i++) {
                inTurn[i] = x.row(i) - first;
            }
            Due.is(when + ": worstBy(" + rule + ")", x.worstBy(rule), waitsOf(inTurn, waited, left, needs)[0]);
        }
    }

    /** Rows of 1 to 6, with 1 to 4 CLERKS, who are idle or have one of the CUPS that were there first. */
    private static void promise25allOrders() {
        int lot = 7;
        for (int cups = 1; cups <= 6; cups++) {
            for (int clerks = 1; clerks <= 4; clerks++) {
                for (int busy = 0; busy <= clerks; busy += 1 + clerks % 2) {
                    int[] homes = new int[busy + cups];
                    int[] sent = new int[busy + cups];
                    for (int i = 0; i < busy + cups; i++) {
                        lot = (lot * 25 + 13) % 1009;
                        homes[i] = 1 + lot % 3;
                        sent[i] = i < busy ? 0 : 1 + lot % 14;
                    }
                    FlyingChange x = row(homes, sent);
                    for (int k = 0; k < clerks; k++) {
                        lot = (lot * 25 + 13) % 1009;
                        x.clerk(4 + lot % 11);
                        if (k == busy - 1) {
                            x.order(1);
                            x.tick(1);
                        }
                    }
                    String when = cups + " in the row, " + clerks + " clerks, " + busy + " of them busy";
                    Due.holds(when + ": all are there", x.row(cups - 1) >= busy);
                    Due.is(when + ": no more", x.row(cups), NONE);
                    isBestOfAll(x, when, cups, clerks);
                }
            }
        }
    }

    private static void promise26worstBy() {
        FlyingChange x = row(new int[] {3, 2, 1}, new int[] {0, 5, 9});
        x.clerk(10);
        Due.is("worstBy(0): 30, 35, 41", x.worstBy(0), 41);
        Due.is("worstBy(1): 30, 35, 41", x.worstBy(1), 41);
        Due.is("worstBy(2): 21, 35, 50", x.worstBy(2), 50);
        x.order(2);
        Due.is("the order that holds is not asked: worstBy(0)", x.worstBy(0), 41);
        Due.is("worstBy(3)", x.worstBy(3), OUTSIDE);
        Due.is("worstBy(-1)", x.worstBy(-1), OUTSIDE);
        FlyingChange y = new FlyingChange();
        y.post(0, true, 20, 1, false);
        y.post(0, true, 1, 1, false);
        y.cup(1);
        y.cup(2);
        y.send(0, 1, 0, 1);
        y.tick(4);
        y.send(1, 1, 0, 1);
        y.tick(26);
        y.clerk(10);
        Due.is("first: 26 + 10, 30 + 20", y.worstBy(0), 50);
        Due.is("oldest: 30 + 10, 26 + 20", y.worstBy(1), 46);
        Due.is("near: 30 + 10, 26 + 20", y.worstBy(2), 46);
    }

    private static void promise26workingClerks() {
        FlyingChange x = row(new int[] {1, 2, 3}, new int[] {0, 1, 2});
        x.clerk(8);
        x.tick(3);
        Due.is("he has one", x.clerkAt(0, 1), 6);
        Due.is("22 + 6 + 8, 21 + 6 + 16", x.worst(), 43);
        Due.is("worstBy(1)", x.worstBy(1), 43);
        x.clerk(9);
        Due.is("22 + 9, 21 + 6 + 8", x.worst(), 35);
        isBest(x, "the idle one takes the first", 1, 2);
        x.clerk(3);
        Due.is("of like ones the least: 22 + 9, 21 + 3", x.worstBy(0), 31);
        Due.is("the older with the quick one: 22 + 3, 21 + 9", x.worst(), 30);
        isBest(x, "the older with the quick one", 2, 1);
        x.tick(6);
        Due.is("none is in the row", x.worst(), NONE);
    }
}
