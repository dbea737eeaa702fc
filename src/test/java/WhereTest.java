/** One CUP on its way through every WHERE, and all that is told of it there. */
public final class WhereTest extends Shops {
    private static final int UP = 1, DOWN = 0;
    private static final int NO_SALE = 0, OPEN = 1, ANSWERED = 2, REFUSED = 3;
    /** No POST's, WIRE's or CLERK's number, no CHILD. */
    private static final int NO = NONE;

    public static void main(String[] args) {
        promise14answeredAndHome();
        promise14answeredStrayAndResent();
        promise14refusedStrayAndFetched();
        promise14refusedAndHome();
        promise14openAndFetched();
        promise14waitsForNone();
        promise36strayIsNotHandedOut();
        promise36whatIsFetchedIsInNoCup();
        Due.end();
    }

    /** JOINT 1, LENGTH 2; COUNTERS 2 and 3 on it, LENGTH 2; CUP 0 of 2; so many coins of KIND 0 in THE DRAWER. */
    private static FlyingChange shop(int ones) {
        FlyingChange x = new FlyingChange();
        x.post(0, false, 2, 1, true);
        x.post(1, true, 2, 1, true);
        x.post(1, true, 2, 1, true);
        x.cup(2);
        x.drawer(0, ones);
        return x;
    }

    private static void isCup(FlyingChange x, String when, int where, int at, int measure, int up, int child) {
        int[] due = {where, at, measure, up, child, 2};
        for (int what = 0; what < due.length; what++) {
            Due.is(when + ": cupAt(0, " + what + ")", x.cupAt(0, what), due[what]);
        }
        Due.is(when + ": not home", x.total(3), where == HOME ? 0 : 1);
        Due.is(when + ": sent again", x.send(0, 1, 0, 51), OUTSIDE);
        if (where != HOME) {
            Due.is(when + ": sent again", x.send(0, 1, 0, 1), STATE);
        }
        if (where != STRAY) {
            Due.is(when + ": resent", x.resend(0), STATE);
        }
    }

    private static void isSale(FlyingChange x, String when, int sale, int price, int sent) {
        Due.is(when + ": its sale", x.cupAt(0, 6), sale);
        Due.is(when + ": its price", x.cupAt(0, 7), price);
        Due.is(when + ": when it was sent", x.cupAt(0, 8), sent);
    }

    /** What it holds, told by KIND and worth, and that none is lost: all that were paid in, less those handed out, are there. */
    private static void holds(FlyingChange x, String when, int kind, int n, int worth) {
        Due.is(when + ": coins of its kind", x.coins(0, kind), n);
        Due.is(when + ": of another kind", x.coins(0, 5), 0);
        Due.is(when + ": what they are worth", x.coins(0, 6), worth);
        Due.is(when + ": in cups and in the drawer", x.total(7), worth + x.till(6));
    }

    /** Sent for 5, paid with 6, on its way UP: the same whatever becomes of it. THE TICK is told at which it is sent. */
    private static void goesUp(FlyingChange x, int sent) {
        int paid = x.total(5);
        Due.is("change that is due", x.send(0, 5, 1, 2), 1);
        Due.is("paid in", x.total(5), paid + 6);
        isOnItsWayUp(x, "sent", WAITING, 2, sent, NO, sent, 0);
        x.tick(1);
        isOnItsWayUp(x, "on its wire", ON_WIRE, 2, 0, NO, sent, 0);
        x.tick(1);
        isOnItsWayUp(x, "on its wire, a tick later", ON_WIRE, 2, 1, NO, sent, 0);
        x.cord(1, false);
        x.tick(2);
        isOnItsWayUp(x, "at the joint", WAITING, 1, sent + 3, NO, sent, 1);
        x.cord(1, true);
        x.tick(1);
        // It rang at 3, so that 2 ticks of LENGTH later it may be in THE CAGE, though it is not.
        isOnItsWayUp(x, "on the next wire", ON_WIRE, 1, 0, NO, sent, 2);
        x.tick(1);
    }

    private static void isOnItsWayUp(FlyingChange x, String when, int where, int at, int measure, int child, int sent, int i) {
        isCup(x, when, where, at, measure, UP, child);
        isSale(x, when, OPEN, 5, sent);
        holds(x, when, 1, 2, 6);
        Due.is(when + ": porter", x.porter(0), STATE);
        Due.is(when + ": mayBe(0)", x.mayBe(0), i);
    }

    private static FlyingChange answeredAtTheCage() {
        FlyingChange x = shop(1);
        goesUp(x, 0);
        x.tick(2);
        String when = "in the row";
        isCup(x, when, IN_ROW, NO, 7, NONE, NO);
        isSale(x, when, OPEN, 5, 0);
        holds(x, when, 1, 2, 6);
        Due.is(when + ": porter", x.porter(0), STATE);
        Due.is(when + ": mayBe(0)", x.mayBe(0), 2);
        x.clerk(2);
        x.tick(1);
        when = "with the clerk";
        isCup(x, when, WITH_CLERK, 0, 2, NONE, NO);
        isSale(x, when, OPEN, 5, 0);
        holds(x, when, 1, 2, 6);
        x.tick(1);
        when = "with the clerk, a tick later";
        isCup(x, when, WITH_CLERK, 0, 1, NONE, NO);
        isSale(x, when, OPEN, 5, 0);
        holds(x, when, 1, 2, 6);
        x.cord(1, false);
        x.tick(1);
        when = "in the cage";
        isCup(x, when, WAITING, 0, 11, DOWN, 1);
        isSale(x, when, ANSWERED, 5, 0);
        holds(x, when, 0, 1, 1);
        Due.is(when + ": porter", x.porter(0), STATE);
        Due.is("the drawer", x.till(6), 6);
        x.cord(1, true);
        return x;
    }

    private static void promise14answeredAndHome() {
        FlyingChange x = answeredAtTheCage();
        x.tick(1);
        isOnItsWayDown(x, "on wire 1", ON_WIRE, 1, 0, NO, ANSWERED, 1);
        x.cord(2, false);
        x.tick(2);
        isOnItsWayDown(x, "at the joint", WAITING, 1, 14, 2, ANSWERED, 1);
        x.cord(2, true);
        x.tick(1);
        isOnItsWayDown(x, "on wire 2", ON_WIRE, 2, 0, NO, ANSWERED, 1);
        x.tick(2);
        isHome(x, "home", 17, 0, 0);
        Due.is("handed out", x.total(6), 1);
    }

    private static void isOnItsWayDown(FlyingChange x, String when, int where, int at, int measure, int child, int sale, int worth) {
        isCup(x, when, where, at, measure, DOWN, child);
        isSale(x, when, sale, 5, 0);
        holds(x, when, 0, worth, worth);
        Due.is(when + ": handed out", x.total(6), 0);
        Due.is(when + ": sales of its home that are done with", x.waits(2, 0), 0);
        Due.is(when + ": mayBe(0)", x.mayBe(0), 2);
    }

    private static void isHome(FlyingChange x, String when, int wait, int refused, int ofTheOther) {
        isCup(x, when, HOME, 2, NONE, NONE, NO);
        isSale(x, when, NO_SALE, NONE, NONE);
        for (int kind = 0; kind <= 6; kind++) {
            Due.is(when + ": coins(0, " + kind + ")", x.coins(0, kind), 0);
        }
        Due.is(when + ": in cups and in the drawer", x.total(7), x.till(6));
        Due.is(when + ": porter", x.porter(0), STATE);
        Due.is(when + ": mayBe(0)", x.mayBe(0), STATE);
        Due.is(when + ": done with", x.waits(2, 0), 1);
        Due.is(when + ": refused", x.waits(2, 1), refused);
        Due.is(when + ": the greatest wait", x.waits(2, 2), wait);
        Due.is(when + ": all waits", x.waits(2, 3), wait);
        Due.is(when + ": done with at the other counter", x.waits(3, 0), ofTheOther);
    }

    /** CUP 0, ANSWERED with 1 or REFUSED with two of KIND 1, is STRAY at 3: SENT at 0, THE TICK is 18. */
    private static FlyingChange stray(int ones) {
        FlyingChange x = shop(ones);
        x.post(0, false, 1, 1, true);
        x.joint(1, 1, 2);
        x.clerk(1);
        x.cup(3);
        x.send(1, 60, 5, 1);
        x.send(0, 5, 1, 2);
        x.cord(2, false);
        x.tick(8);
        x.cord(2, true);
        x.tick(10);
        return x;
    }

    private static void isStray(FlyingChange x, String when, int sale, int kind, int n, int worth) {
        isCup(x, when, STRAY, 3, NONE, NONE, NO);
        isSale(x, when, sale, 5, 0);
        holds(x, when, kind, n, worth);
        Due.is(when + ": bells, twice of each cup", x.bells(), 4);
        Due.is(when + ": mayBe(0)", x.mayBe(0), 2);
        Due.is(when + ": sales of its home that are done with", x.waits(2, 0), 0);
        Due.is(when + ": of the counter where it is", x.waits(3, 0), 1);
        Due.is(when + ": handed out there", x.waits(3, 4), 0);
        Due.is(when + ": handed out", x.total(6), 0);
    }

    private static void promise14answeredStrayAndResent() {
        FlyingChange x = stray(1);
        isStray(x, "answered, stray", ANSWERED, 0, 1, 1);
        Due.is("resent", x.resend(0), 3);
        isOfTheResent(x, "resent", WAITING, 3, 18, UP, NO);
        x.tick(1);
        isOfTheResent(x, "resent, on wire 3", ON_WIRE, 3, 0, UP, NO);
        x.cord(1, false);
        x.tick(2);
        isOfTheResent(x, "resent, at the joint", WAITING, 1, 21, UP, NO);
        x.cord(1, true);
        x.tick(2);
        isOfTheResent(x, "resent, on wire 1", ON_WIRE, 1, 1, UP, NO);
        x.tick(1);
        isOfTheResent(x, "resent, with the clerk", WITH_CLERK, 0, 1, NONE, NO);
        x.cord(1, false);
        x.tick(1);
        isOfTheResent(x, "resent, in the cage", WAITING, 0, 25, DOWN, 1);
        x.cord(1, true);
        x.tick(5);
        isHome(x, "resent, home", 30, 0, 1);
        Due.is("handed out at its home", x.waits(2, 4), 1);
        Due.is("handed out", x.total(6), 1);
        Due.is("bells", x.bells(), 6);
    }

    private static void isOfTheResent(FlyingChange x, String when, int where, int at, int measure, int up, int child) {
        isCup(x, when, where, at, measure, up, child);
        isSale(x, when, ANSWERED, 5, 0);
        holds(x, when, 0, 1, 1);
        Due.is(when + ": porter", x.porter(0), STATE);
        Due.is(when + ": mayBe(0)", x.mayBe(0), 2);
    }

    private static void promise14refusedStrayAndFetched() {
        FlyingChange x = stray(0);
        x.drawer(0, 7);
        isStray(x, "refused, stray", REFUSED, 1, 2, 6);
        Due.is("a porter, over 4 ticks of length", x.porter(0), 30);
        for (int t = 18; t < 30; t++) {
            String when = "with a porter, at " + t;
            isCup(x, when, WITH_PORTER, NO, 30, NONE, NO);
            isSale(x, when, REFUSED, 5, 0);
            holds(x, when, 1, 2, 6);
            Due.is(when + ": handed out", x.total(6), 0);
            Due.is(when + ": mayBe(0)", x.mayBe(0), 2);
            x.tick(1);
        }
        isHome(x, "with a porter, home", 30, 1, 1);
        Due.is("handed out at its home", x.waits(2, 4), 6);
        Due.is("handed out", x.total(6), 6);
        Due.is("a porter rings none", x.bells(), 4);
    }

    private static void promise14refusedAndHome() {
        FlyingChange x = shop(0);
        x.clerk(2);
        x.send(0, 5, 1, 2);
        x.tick(7);
        isSale(x, "refused", REFUSED, 5, 0);
        holds(x, "refused, on wire 1", 1, 2, 6);
        Due.is("refused: mayBe(0)", x.mayBe(0), 2);
        Due.is("not refused yet among those done with", x.waits(2, 1), 0);
        x.tick(4);
        isHome(x, "refused, home", 11, 1, 0);
        Due.is("handed out at its home", x.waits(2, 4), 6);
    }

    private static void promise14openAndFetched() {
        FlyingChange x = shop(3);
        x.send(0, 5, 1, 2);
        x.tick(4);
        x.cord(1, false);
        Due.is("from wire 1, over 2 ticks of length", x.porter(0), 10);
        for (int t = 4; t < 10; t++) {
            String when = "open, with a porter, at " + t;
            isCup(x, when, WITH_PORTER, NO, 10, NONE, NO);
            isSale(x, when, OPEN, 5, 0);
            holds(x, when, 1, 2, 6);
            Due.is(when + ": on(1, true)", x.on(1, true), 0);
            x.tick(1);
        }
        isHome(x, "open, home", 10, 0, 0);
        Due.is("all that came is handed out", x.waits(2, 4), 6);
        Due.is("the drawer has had nothing of it", x.till(6), 3);
    }

    private static void promise14waitsForNone() {
        FlyingChange x = shop(1);
        x.post(1, false, 3, 1, true);
        x.joint(1, 1, 2);
        x.clerk(1);
        x.cup(3);
        x.send(1, 1, 0, 1);
        x.tick(12);
        x.joint(1, 1, 2);
        x.post(0, false, 1, 1, true);
        x.send(1, 1, 0, 1);
        x.tick(12);
        x.send(1, 1, 0, 1);
        x.tick(12);
        String call = "it waits for none: cupAt(1, ";
        int[] due = {WAITING, 4, 35, DOWN, NONE, 3, ANSWERED, 1, 24};
        for (int what = 0; what < due.length; what++) {
            Due.is(call + what + ")", x.cupAt(1, what), due[what]);
        }
        Due.is("it rang there too", x.bell(x.bells() - 1, false), 4);
        Due.is("at that tick", x.bell(x.bells() - 1, true), 35);
        Due.is("a child of that joint, later", x.post(4, true, 1, 1, true), 6);
        x.tick(5);
        Due.is("it waits on: the post", x.cupAt(1, 1), 4);
        Due.is("it waits on: for none", x.cupAt(1, 4), NONE);
        Due.is("a porter, over 5 ticks of length", x.porter(1), 41 + 15);
    }

    private static void promise36strayIsNotHandedOut() {
        FlyingChange x = stray(1);
        int all = x.total(7);
        Due.is("paid in, and what lay in the drawer", all, x.coins(0, 6) + x.coins(1, 6) + x.till(6));
        x.porter(0);
        Due.is("a porter has it", x.total(7), all);
        x.tick(12);
        Due.is("it is handed out", x.total(7), all - 1);
        Due.is("handed out", x.total(6), 1);
    }

    private static void promise36whatIsFetchedIsInNoCup() {
        FlyingChange x = shop(2);
        x.fetch(3, 10, 4);
        Due.is("not there yet", x.total(7), 2);
        Due.is("not in the drawer yet", x.till(6), 2);
        Due.is("told of another kind, was", x.drawer(5, 1), 0);
        Due.is("told of its kind, was", x.drawer(3, 2), 0);
        Due.is("told again, was", x.drawer(3, 1), 2);
        x.tick(3);
        Due.is("a tick ahead", x.total(7), 2 + 60 + 12);
        x.tick(1);
        Due.is("there, beside that which was told", x.till(3), 11);
        Due.is("there", x.total(7), 2 + 60 + 132);
        Due.is("nothing is paid in", x.total(5), 0);
    }
}
