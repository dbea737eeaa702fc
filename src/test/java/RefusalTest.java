import java.util.ArrayList;
import java.util.List;

/**
 * What is refused changes nothing: a shop that was asked for what it refuses, and its twin that was not, are compared
 * at once and after more ticks. And of several refusals the first that the promise names is answered.
 */
public final class RefusalTest extends Shops {
    private interface Shop {
        FlyingChange made();
    }

    private interface Deed {
        void to(FlyingChange x);
    }

    public static void main(String[] args) {
        busyShopIsAsItIsTold();
        promise2postInOrder();
        promise3jointInOrder();
        promise4aboutToPromise6cupInOrder();
        promise7clerkToPromise10fetchInOrder();
        promise11sendInOrder();
        promise14cupAtToPromise22onInOrder();
        promise23waitsToPromise26worstByInOrder();
        promise27rushToPromise36totalInOrder();
        changesNothing("the shop", RefusalTest::busy, RefusalTest::askForTheShop);
        changesNothing("cups", RefusalTest::busy, RefusalTest::askForCups);
        changesNothing("time", RefusalTest::busy, RefusalTest::askForTime);
        changesNothing("waits and rush", RefusalTest::busy, RefusalTest::askForWaitsAndRush);
        changesNothing("a full shop", RefusalTest::full, RefusalTest::askOfAFullShop);
        changesNothing("a full row", RefusalTest::rowOfSevenWithAClerk, RefusalTest::askOfAFullRow);
        changesNothing("the last ticks", RefusalTest::late, RefusalTest::askOfTheLastTicks);
        changesNothing("to look", RefusalTest::busy, RefusalTest::looked);
        Due.end();
    }

    /**
     * POSTS: 1 a JOINT (TURN, WORN by 3) with COUNTERS 2, 3 and the JOINT 4 (SILENT, without CHILDREN); 5 a COUNTER
     * whose WIRE is BROKEN, and 6 one; WIRE 1 is BROKEN too. THE TICK is 169, and a CUP is in every state:
     * 0 STRAY at 3; 1 waits for none at 4; 2 with the CLERK for one tick more; 3 on WIRE 5; 4 waits at 5; 5 and 10
     * HOME; 9, 6, 7 in THE ROW; 8 with a PORTER; 11 on WIRE 1; 12, 13, 14 wait at 1 to go UP, from 3, 2, 3.
     */
    private static FlyingChange busy() {
        FlyingChange x = new FlyingChange();
        x.post(0, false, 2, 1, true);
        x.post(1, true, 2, 1, true);
        x.post(1, true, 2, 1, true);
        x.post(1, false, 3, 1, true);
        x.post(0, true, 20, 2, false);
        x.post(0, true, 1, 1, true);
        x.joint(1, 1, 3);
        x.joint(1, 0, 2);
        x.joint(4, 2, 1);
        for (int home : new int[] {2, 3, 3, 5, 5, 5, 6, 6, 2, 6, 6, 2, 3, 2, 3}) {
            x.cup(home);
        }
        x.clerk(6);
        x.drawer(0, 9);
        x.drawer(5, 1);
        x.order(1);
        for (int cup : new int[] {0, 8, 1, 11, 8, 0, 11, 2, 8}) {
            x.send(cup, 5, 2, 2);
            x.tick(16);
        }
        x.send(3, 100, 5, 2);
        x.send(4, 10, 3, 1);
        x.tick(1);
        x.cord(5, false);
        x.send(11, 1, 0, 3);
        x.tick(14);
        x.send(2, 1, 0, 1);
        x.tick(3);
        x.send(9, 1, 0, 2);
        x.tick(1);
        x.send(6, 1, 1, 1);
        x.send(7, 2, 1, 1);
        for (int cup = 11; cup <= 14; cup++) {
            x.send(cup, 1, 1, 1);
        }
        x.tick(3);
        x.cord(1, false);
        x.tick(3);
        x.porter(8);
        x.fetch(0, 5, 3);
        x.fetch(4, 2, 50);
        x.rush(2, 0, 300);
        x.rush(5, 3, 7);
        return x;
    }

    private static void busyShopIsAsItIsTold() {
        FlyingChange x = busy();
        int[][] due = {{5, 3}, {1, 4}, {4, 0}, {2, 5}, {1, 5}, {0, 5}, {3, NONE}, {3, NONE}, {6, NONE}, {3, NONE}, {0, 6},
            {2, 1}, {1, 1}, {1, 1}, {1, 1}};
        for (int cup = 0; cup < due.length; cup++) {
            Due.is("busy: cupAt(" + cup + ", 0)", x.cupAt(cup, 0), due[cup][0]);
            Due.is("busy: cupAt(" + cup + ", 1)", x.cupAt(cup, 1), due[cup][1]);
        }
        Due.is("busy: total(2)", x.total(2), 169);
        Due.is("busy: cup 1 waits for none", x.cupAt(1, 4), NONE);
        Due.is("busy: the clerk's ticks", x.clerkAt(0, 1), 1);
        Due.is("busy: all are not home but two", x.total(3), 13);
        Due.is("busy: on a broken wire, up", x.on(5, true), 1);
        Due.is("busy: on a broken wire, down", x.on(5, false), 0);
        Due.is("busy: with a porter, on no wire", x.on(1, true) + x.on(1, false) + x.on(2, true) + x.on(2, false), 1);
    }

    /** 16 POSTS, 24 CUPS, 4 CLERKS, 20 that were fetched; all CUPS of COUNTERS 2 .. 13 have been sent, those of 14 not. */
    private static FlyingChange full() {
        FlyingChange x = new FlyingChange();
        x.post(0, false, 2, 1, true);
        for (int i = 2; i < 15; i++) {
            x.post(i % 2, true, 1 + i % 3, 1 + i % 2, i % 4 == 0);
        }
        x.post(1, false, 1, 1, true);
        x.joint(1, 1, 2);
        for (int i = 0; i < 24; i++) {
            x.cup(2 + i % 13);
        }
        for (int i = 0; i < 4; i++) {
            x.clerk(2 + i);
        }
        for (int i = 0; i < 20; i++) {
            x.fetch(i % 6, 5 + i, 9 + i);
        }
        for (int i = 0; i < 24; i++) {
            if (i % 13 != 12) {
                x.send(i, 1 + i, 4, 1);
            }
        }
        x.tick(8);
        return x;
    }

    /** THE TICK is 19990; CUP 0 is on WIRE 1, coins are fetched for 19995 and 20001. */
    private static FlyingChange late() {
        FlyingChange x = new FlyingChange();
        x.post(0, true, 6, 1, false);
        x.post(0, false, 1, 1, false);
        x.cup(1);
        x.cup(1);
        x.clerk(2);
        for (int i = 0; i < 99; i++) {
            x.tick(200);
        }
        x.tick(188);
        x.send(0, 3, 1, 2);
        x.tick(2);
        x.fetch(1, 4, 5);
        x.fetch(2, 4, 11);
        return x;
    }

    // ---- the first that is named is answered

    private static void promise2postInOrder() {
        FlyingChange x = busy();
        Due.is("no such post, length and gap outside", x.post(7, true, 0, 11, true), UNKNOWN);
        Due.is("no such post, length outside", x.post(-1, true, 21, 1, true), UNKNOWN);
        Due.is("no such post, gap outside", x.post(16, true, 1, 0, true), UNKNOWN);
        Due.is("a counter, length below", x.post(2, true, 0, 1, true), OUTSIDE);
        Due.is("a counter, length above", x.post(2, true, 21, 1, true), OUTSIDE);
        Due.is("a counter, gap below", x.post(2, true, 1, 0, true), OUTSIDE);
        Due.is("a counter, gap above", x.post(2, false, 1, 11, true), OUTSIDE);
        Due.is("a counter", x.post(2, false, 1, 1, true), STATE);
        FlyingChange y = full();
        Due.is("no such post, when full", y.post(16, true, 1, 1, true), UNKNOWN);
        Due.is("no such post, outside, when full", y.post(-1, true, 0, 0, true), UNKNOWN);
        Due.is("length outside, when full", y.post(0, true, 21, 1, true), OUTSIDE);
        Due.is("gap outside, when full", y.post(0, true, 1, 11, true), OUTSIDE);
        Due.is("a counter, gap outside, when full", y.post(2, true, 1, 0, true), OUTSIDE);
        Due.is("a counter, when full", y.post(2, true, 1, 1, true), STATE);
        Due.is("the cage, when full", y.post(0, true, 1, 1, true), FULL);
        Due.is("a joint, when full", y.post(15, false, 1, 1, true), FULL);
    }

    private static void promise3jointInOrder() {
        FlyingChange x = busy();
        int[][] outside = {{-1, 0}, {3, 0}, {0, -1}, {0, 3}, {1, -1}, {1, 1}, {1, 10}, {2, -1}, {2, 2}};
        for (int[] o : outside) {
            String call = ", " + o[0] + ", " + o[1] + ")";
            Due.is("joint(7" + call, x.joint(7, o[0], o[1]), UNKNOWN);
            Due.is("joint(-1" + call, x.joint(-1, o[0], o[1]), UNKNOWN);
            Due.is("joint(0" + call, x.joint(0, o[0], o[1]), STATE);
            Due.is("joint(2" + call, x.joint(2, o[0], o[1]), STATE);
            Due.is("joint(1" + call, x.joint(1, o[0], o[1]), OUTSIDE);
        }
    }

    private static void promise4aboutToPromise6cupInOrder() {
        FlyingChange x = busy();
        Due.is("about(7, 6)", x.about(7, 6), UNKNOWN);
        Due.is("about(-1, -1)", x.about(-1, -1), UNKNOWN);
        Due.is("of the cage nothing is told: about(0, 6)", x.about(0, 6), OUTSIDE);
        Due.is("of the cage nothing is told: about(0, -1)", x.about(0, -1), OUTSIDE);
        Due.is("cord(0, true)", x.cord(0, true), UNKNOWN);
        FlyingChange y = full();
        Due.is("no such post, when full", y.cup(16), UNKNOWN);
        Due.is("no such post, when full", y.cup(-1), UNKNOWN);
        Due.is("the cage, when full", y.cup(0), STATE);
        Due.is("a joint, when full", y.cup(1), STATE);
        Due.is("a counter, when full", y.cup(2), FULL);
    }

    private static void promise7clerkToPromise10fetchInOrder() {
        FlyingChange y = full();
        Due.is("clerk(0), when full", y.clerk(0), OUTSIDE);
        Due.is("clerk(31), when full", y.clerk(31), OUTSIDE);
        Due.is("clerk(1), when full", y.clerk(1), FULL);
        Due.is("clerk(30), when full", y.clerk(30), FULL);
        int[][] outside = {{-1, 1, 1}, {6, 1, 1}, {0, 0, 1}, {0, 101, 1}, {0, 1, 0}, {0, 1, 201}};
        for (int[] o : outside) {
            String call = "fetch(" + o[0] + ", " + o[1] + ", " + o[2] + ")";
            Due.is(call + ", when full", y.fetch(o[0], o[1], o[2]), OUTSIDE);
        }
        Due.is("fetch(0, 1, 1), when full", y.fetch(0, 1, 1), FULL);
        Due.is("fetch(5, 100, 200), when full", y.fetch(5, 100, 200), FULL);
        Due.is("drawer(6, 1001)", y.drawer(6, 1001), OUTSIDE);
    }

    private static void promise11sendInOrder() {
        FlyingChange x = busy();
        int[][] outside = {{0, 0, 1}, {3001, 5, 50}, {3001, 0, 1}, {1, -1, 1}, {1, 6, 1}, {1, 0, 0}, {1, 0, 51}, {3000, 6, 51}};
        for (int[] o : outside) {
            String call = ", " + o[0] + ", " + o[1] + ", " + o[2] + ")";
            Due.is("no such cup: send(15" + call, x.send(15, o[0], o[1], o[2]), UNKNOWN);
            Due.is("no such cup: send(-1" + call, x.send(-1, o[0], o[1], o[2]), UNKNOWN);
            Due.is("not home: send(0" + call, x.send(0, o[0], o[1], o[2]), OUTSIDE);
            Due.is("not home: send(2" + call, x.send(2, o[0], o[1], o[2]), OUTSIDE);
            Due.is("home: send(5" + call, x.send(5, o[0], o[1], o[2]), OUTSIDE);
        }
        Due.is("no such cup, not enough", x.send(15, 2, 0, 1), UNKNOWN);
        Due.is("not home, not enough", x.send(0, 2, 0, 1), STATE);
        Due.is("not home", x.send(0, 1, 0, 1), STATE);
        Due.is("not enough", x.send(5, 2, 0, 1), STATE);
    }

    private static void promise14cupAtToPromise22onInOrder() {
        FlyingChange x = busy();
        Due.is("cupAt(15, 9)", x.cupAt(15, 9), UNKNOWN);
        Due.is("cupAt(-1, -1)", x.cupAt(-1, -1), UNKNOWN);
        Due.is("coins(15, 7)", x.coins(15, 7), UNKNOWN);
        Due.is("coins(-1, -1)", x.coins(-1, -1), UNKNOWN);
        Due.is("clerkAt(1, 3)", x.clerkAt(1, 3), UNKNOWN);
        Due.is("clerkAt(-1, -1)", x.clerkAt(-1, -1), UNKNOWN);
        Due.is("it can't, and kind 6", x.gives(3000, 6), OUTSIDE);
        Due.is("it can't, and kind -1", x.gives(3000, -1), OUTSIDE);
        Due.is("it can't", x.gives(3000, 5), NONE);
        FlyingChange y = late();
        Due.is("tick(0)", y.tick(0), OUTSIDE);
        Due.is("tick(201), above the last", y.tick(201), OUTSIDE);
        Due.is("tick of the greatest, above the last", y.tick(Integer.MAX_VALUE), OUTSIDE);
        Due.is("tick(200), above the last", y.tick(200), FULL);
        Due.is("tick(11), above the last", y.tick(11), FULL);
    }

    private static void promise23waitsToPromise26worstByInOrder() {
        FlyingChange x = busy();
        for (int what : new int[] {-1, 5}) {
            Due.is("waits(7, " + what + ")", x.waits(7, what), UNKNOWN);
            Due.is("waits(-1, " + what + ")", x.waits(-1, what), UNKNOWN);
            Due.is("waits(0, " + what + ")", x.waits(0, what), STATE);
            Due.is("waits(1, " + what + ")", x.waits(1, what), STATE);
            Due.is("waits(2, " + what + ")", x.waits(2, what), OUTSIDE);
        }
        FlyingChange y = rowOfSeven();
        for (int rule : new int[] {-1, 3}) {
            Due.is("no clerks, seven: worstBy(" + rule + ")", y.worstBy(rule), OUTSIDE);
            Due.is("an empty row: worstBy(" + rule + ")", new FlyingChange().worstBy(rule), OUTSIDE);
        }
        Due.is("no clerks, seven: worst()", y.worst(), NONE);
        Due.is("no clerks, seven: best(0)", y.best(0), NONE);
        Due.is("no clerks, seven: worstBy(0)", y.worstBy(0), NONE);
        y.clerk(1);
        Due.is("seven: worstBy(-1)", y.worstBy(-1), OUTSIDE);
        Due.is("seven: worstBy(3)", y.worstBy(3), OUTSIDE);
        Due.is("seven: worstBy(2)", y.worstBy(2), STATE);
        Due.is("seven: worst()", y.worst(), STATE);
        Due.is("seven: best(0)", y.best(0), STATE);
    }

    private static FlyingChange rowOfSeven() {
        FlyingChange y = new FlyingChange();
        y.post(0, true, 1, 1, true);
        for (int cup = 0; cup < 7; cup++) {
            y.cup(1);
            y.send(cup, 1, 0, 1);
        }
        y.tick(20);
        return y;
    }

    private static void promise27rushToPromise36totalInOrder() {
        FlyingChange x = busy();
        int[][] outside = {{-1, 0}, {6, 0}, {0, -1}, {0, 301}, {6, 301}};
        for (int[] o : outside) {
            String call = ", " + o[0] + ", " + o[1] + ")";
            Due.is("rush(7" + call, x.rush(7, o[0], o[1]), UNKNOWN);
            Due.is("rush(-1" + call, x.rush(-1, o[0], o[1]), UNKNOWN);
            Due.is("rush(0" + call, x.rush(0, o[0], o[1]), STATE);
            Due.is("rush(1" + call, x.rush(1, o[0], o[1]), STATE);
            Due.is("rush(2" + call, x.rush(2, o[0], o[1]), OUTSIDE);
        }
        for (int post : new int[] {-1, 0, 7}) {
            for (int hour : new int[] {-1, 6}) {
                Due.is("load(" + post + ", " + hour + ")", x.load(post, hour), UNKNOWN);
                Due.is("loss(" + post + ", " + hour + ")", x.loss(post, hour), UNKNOWN);
            }
        }
        Due.is("no such cup: mayBe(15)", x.mayBe(15), UNKNOWN);
        Due.is("without a sale: mayBe(5)", x.mayBe(5), STATE);
    }

    // ---- what is refused changes nothing

    private static void askForTheShop(FlyingChange x) {
        Due.is("post(7, ..)", x.post(7, true, 1, 1, true), UNKNOWN);
        Due.is("post(-1, ..)", x.post(-1, false, 1, 1, true), UNKNOWN);
        Due.is("post of length 0", x.post(0, true, 0, 1, true), OUTSIDE);
        Due.is("post of length 21", x.post(0, true, 21, 1, true), OUTSIDE);
        Due.is("post of gap 0", x.post(1, false, 1, 0, true), OUTSIDE);
        Due.is("post of gap 11", x.post(1, false, 1, 11, true), OUTSIDE);
        Due.is("post on a counter", x.post(3, true, 1, 1, true), STATE);
        Due.is("joint of a counter", x.joint(2, 0, 0), STATE);
        Due.is("joint of the cage", x.joint(0, 1, 2), STATE);
        Due.is("joint of none", x.joint(7, 2, 0), UNKNOWN);
        int[][] outside = {{-1, 0}, {3, 0}, {3, 1}, {0, -1}, {0, 3}, {1, -1}, {1, 1}, {1, 10}, {2, -1}, {2, 2}};
        for (int[] o : outside) {
            Due.is("joint(1, " + o[0] + ", " + o[1] + ")", x.joint(1, o[0], o[1]), OUTSIDE);
            Due.is("joint(4, " + o[0] + ", " + o[1] + ")", x.joint(4, o[0], o[1]), OUTSIDE);
        }
        Due.is("cord of the cage", x.cord(0, false), UNKNOWN);
        Due.is("cord of none", x.cord(7, false), UNKNOWN);
        Due.is("cup of none", x.cup(7), UNKNOWN);
        Due.is("cup of the cage", x.cup(0), STATE);
        Due.is("cup of a joint", x.cup(1), STATE);
        Due.is("clerk(0)", x.clerk(0), OUTSIDE);
        Due.is("clerk(31)", x.clerk(31), OUTSIDE);
        Due.is("order(-1)", x.order(-1), OUTSIDE);
        Due.is("order(3)", x.order(3), OUTSIDE);
        Due.is("drawer(-1, 3)", x.drawer(-1, 3), OUTSIDE);
        Due.is("drawer(6, 3)", x.drawer(6, 3), OUTSIDE);
        Due.is("drawer(0, -1)", x.drawer(0, -1), OUTSIDE);
        Due.is("drawer(5, 1001)", x.drawer(5, 1001), OUTSIDE);
        Due.is("fetch(-1, 1, 1)", x.fetch(-1, 1, 1), OUTSIDE);
        Due.is("fetch(6, 1, 1)", x.fetch(6, 1, 1), OUTSIDE);
        Due.is("fetch(0, 0, 1)", x.fetch(0, 0, 1), OUTSIDE);
        Due.is("fetch(0, 101, 1)", x.fetch(0, 101, 1), OUTSIDE);
        Due.is("fetch(0, 1, 0)", x.fetch(0, 1, 0), OUTSIDE);
        Due.is("fetch(0, 1, 201)", x.fetch(0, 1, 201), OUTSIDE);
    }

    private static void askForCups(FlyingChange x) {
        for (int cup : new int[] {0, 1, 2, 3, 4, 6, 7, 8, 9, 11, 12, 13, 14}) {
            Due.is("send of one that is not home: " + cup, x.send(cup, 1, 5, 2), STATE);
        }
        for (int cup = 1; cup <= 14; cup++) {
            Due.is("resend of one that is no stray: " + cup, x.resend(cup), STATE);
        }
        for (int cup : new int[] {2, 4, 5, 6, 7, 8, 9, 10, 12, 13, 14}) {
            Due.is("porter for one that he may not take: " + cup, x.porter(cup), STATE);
        }
        Due.is("send: not enough", x.send(5, 61, 5, 1), STATE);
        int[][] outside = {{0, 0, 1}, {3001, 5, 50}, {1, -1, 1}, {1, 6, 1}, {1, 0, 0}, {1, 0, 51}};
        for (int[] o : outside) {
            Due.is("send(10, " + o[0] + ", " + o[1] + ", " + o[2] + ")", x.send(10, o[0], o[1], o[2]), OUTSIDE);
        }
        Due.is("send(15, ..)", x.send(15, 1, 0, 1), UNKNOWN);
        Due.is("resend(15)", x.resend(15), UNKNOWN);
        Due.is("porter(15)", x.porter(15), UNKNOWN);
        Due.is("send(-1, ..)", x.send(-1, 1, 0, 1), UNKNOWN);
        Due.is("resend(-1)", x.resend(-1), UNKNOWN);
        Due.is("porter(-1)", x.porter(-1), UNKNOWN);
        Due.is("cupAt(0, 9)", x.cupAt(0, 9), OUTSIDE);
        Due.is("coins(0, 7)", x.coins(0, 7), OUTSIDE);
    }

    private static void askForTime(FlyingChange x) {
        Due.is("tick(0)", x.tick(0), OUTSIDE);
        Due.is("tick(-1)", x.tick(-1), OUTSIDE);
        Due.is("tick(201)", x.tick(201), OUTSIDE);
        Due.is("tick(20000)", x.tick(20000), OUTSIDE);
        Due.is("row(-1)", x.row(-1), NONE);
        Due.is("row(3)", x.row(3), NONE);
        Due.is("clerkAt(1, 0)", x.clerkAt(1, 0), UNKNOWN);
        Due.is("clerkAt(0, 3)", x.clerkAt(0, 3), OUTSIDE);
        Due.is("till(7)", x.till(7), OUTSIDE);
        Due.is("could(3001)", x.could(3001), OUTSIDE);
        Due.is("could(3000)", x.could(3000), NONE);
        Due.is("gives(3000, 0)", x.gives(3000, 0), NONE);
        Due.is("gives(1, 6)", x.gives(1, 6), OUTSIDE);
        Due.is("on(0, true)", x.on(0, true), UNKNOWN);
        Due.is("on(7, true)", x.on(7, true), UNKNOWN);
    }

    private static void askForWaitsAndRush(FlyingChange x) {
        Due.is("waits(1, 0)", x.waits(1, 0), STATE);
        Due.is("waits(2, 5)", x.waits(2, 5), OUTSIDE);
        Due.is("waits(7, 0)", x.waits(7, 0), UNKNOWN);
        Due.is("worstBy(3)", x.worstBy(3), OUTSIDE);
        Due.is("best(3)", x.best(3), NONE);
        Due.is("best(-1)", x.best(-1), NONE);
        Due.is("rush of none", x.rush(7, 0, 5), UNKNOWN);
        Due.is("rush of the cage", x.rush(0, 0, 5), STATE);
        Due.is("rush of a joint", x.rush(1, 0, 5), STATE);
        Due.is("rush(2, -1, 5)", x.rush(2, -1, 5), OUTSIDE);
        Due.is("rush(2, 6, 5)", x.rush(2, 6, 5), OUTSIDE);
        Due.is("rush(2, 0, -1)", x.rush(2, 0, -1), OUTSIDE);
        Due.is("rush(2, 3, 301)", x.rush(2, 3, 301), OUTSIDE);
        Due.is("load(1, 6)", x.load(1, 6), OUTSIDE);
        Due.is("lines(0)", x.lines(0), UNKNOWN);
        Due.is("vital(6)", x.vital(6), OUTSIDE);
        Due.is("vital(1)", x.vital(1), NONE);
        Due.is("loss(1, -1)", x.loss(1, -1), OUTSIDE);
        Due.is("bell(-1, true)", x.bell(-1, true), NONE);
        Due.is("bell(300, true)", x.bell(300, true), NONE);
        Due.is("mayBe(5)", x.mayBe(5), STATE);
        Due.is("total(8)", x.total(8), OUTSIDE);
    }

    private static void askOfAFullShop(FlyingChange x) {
        Due.is("full: a counter on the cage", x.post(0, true, 9, 9, true), FULL);
        Due.is("full: a joint on a joint", x.post(1, false, 1, 1, false), FULL);
        Due.is("full: a counter on the joint without children", x.post(15, true, 1, 1, false), FULL);
        Due.is("full: a cup", x.cup(3), FULL);
        Due.is("full: a clerk", x.clerk(1), FULL);
        Due.is("full: fetched", x.fetch(0, 100, 1), FULL);
        Due.is("full: fetched, as late as can be", x.fetch(5, 100, 200), FULL);
    }

    private static FlyingChange rowOfSevenWithAClerk() {
        FlyingChange x = rowOfSeven();
        x.clerk(2);
        return x;
    }

    private static void askOfAFullRow(FlyingChange x) {
        Due.is("seven: worst()", x.worst(), STATE);
        Due.is("seven: best(0)", x.best(0), STATE);
        Due.is("seven: best(6)", x.best(6), STATE);
        for (int rule = 0; rule < 3; rule++) {
            Due.is("seven: worstBy(" + rule + ")", x.worstBy(rule), STATE);
        }
    }

    private static void askOfTheLastTicks(FlyingChange x) {
        Due.is("above the last tick by 1", x.tick(11), FULL);
        Due.is("above the last tick by 190", x.tick(200), FULL);
        Due.is("no ticks", x.tick(0), OUTSIDE);
    }

    /** What is only looked at changes nothing either. */
    private static void looked(FlyingChange x) {
        told(x, 0);
    }

    private static void changesNothing(String what, Shop shop, Deed asked) {
        for (int later = 0; later < 4; later++) {
            areTwins(what + " refused, later " + later, shop, asked, later, 0, 1, 2, 4, 6);
            areTwins(what + " refused, later " + later, shop, asked, later, 0, 3, 5, 7, 8);
        }
    }

    /** No object tells all at once, as it would be called too often. */
    private static void areTwins(String when, Shop shop, Deed asked, int later, int... ofCups) {
        FlyingChange x = shop.made();
        FlyingChange twin = shop.made();
        asked.to(x);
        goOn(x, later);
        goOn(twin, later);
        List<Integer> got = told(x, ofCups);
        List<Integer> due = told(twin, ofCups);
        got.addAll(wasTold(x));
        due.addAll(wasTold(twin));
        Due.is(when + ": as many are told", got.size(), due.size());
        for (int i = 0; i < Math.min(got.size(), due.size()); i++) {
            Due.is(when + ": answer " + i, got.get(i), due.get(i));
        }
    }

    private static void goOn(FlyingChange x, int later) {
        if (later == 0) {
            return;
        }
        x.cord(1, true);
        x.tick(1);
        if (later == 1) {
            return;
        }
        x.cord(5, true);
        x.tick(later == 2 ? 9 : 8);
        if (later == 3) {
            x.resend(0);
            x.tick(120);
        }
    }

    /** What a shop tells of all that is in it. */
    private static List<Integer> told(FlyingChange x, int... ofCups) {
        List<Integer> all = new ArrayList<>();
        int posts = x.total(0);
        int cups = x.total(1);
        for (int what = 0; what < 8; what++) {
            all.add(x.total(what));
        }
        for (int cup = 0; cup < cups; cup++) {
            for (int what : ofCups) {
                all.add(x.cupAt(cup, what));
            }
            all.add(x.coins(cup, 6));
            all.add(x.mayBe(cup));
        }
        for (int post = 0; post < posts; post++) {
            all.add(x.about(post, 1));
            all.add(x.on(post, true));
            all.add(x.on(post, false));
            all.add(x.load(post, 0));
            all.add(x.waits(post, 2));
            all.add(x.waits(post, 3));
        }
        for (int clerk = 0; clerk < 4; clerk++) {
            all.add(x.clerkAt(clerk, 0));
            all.add(x.clerkAt(clerk, 1));
        }
        for (int kind = 0; kind < 6; kind++) {
            all.add(x.till(kind));
        }
        for (int i = 0; i < 4; i++) {
            all.add(x.row(i));
            all.add(x.best(i));
        }
        for (int hour = 0; hour < 6; hour++) {
            all.add(x.vital(hour));
        }
        int bells = x.bells();
        all.add(bells);
        all.add(x.bell(0, true));
        all.add(x.bell(bells - 1, false));
        all.add(x.bell(bells - 1, true));
        all.add(x.worst());
        all.add(x.wanted());
        return all;
    }

    /** What it was told, which can be asked only by telling it anew. */
    private static List<Integer> wasTold(FlyingChange x) {
        List<Integer> all = new ArrayList<>();
        all.add(x.order(0));
        for (int post = 0; post < x.total(0); post++) {
            all.add(x.cord(post, true));
            if (x.about(post, 1) == 1) {
                for (int what = 0; what < 3; what++) {
                    all.add(x.joint(post, what, 0));
                }
            }
        }
        return all;
    }
}
