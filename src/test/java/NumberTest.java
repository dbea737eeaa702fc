/** The least and the greatest of each number that a call takes, and the first on either side that it refuses. */
public final class NumberTest extends Shops {
    private interface Call {
        int with(FlyingChange x, int v);
    }

    public static void main(String[] args) {
        promise2post();
        promise3joint();
        promise3jointIsWhatItWasTold();
        promise4about();
        promise5cord();
        promise6cup();
        promise7clerk();
        promise8order();
        promise9drawer();
        promise10fetch();
        promise11send();
        promise11sendIsWorthThePrice();
        promise12resend();
        promise13porter();
        promise14cupAt();
        promise15coins();
        promise16tick();
        promise17row();
        promise18clerkAt();
        promise19till();
        promise20could();
        promise21gives();
        promise22on();
        promise23waits();
        promise25best();
        promise26worstBy();
        promise27rush();
        promise28load();
        promise29lines();
        promise31vital();
        promise32loss();
        promise34bell();
        promise35mayBe();
        promise36total();
        Due.end();
    }

    /**
     * POSTS: 1 a JOINT (LENGTH 4, GAP 2, DOUBLE) and 2 a COUNTER (3, 1, SINGLE) on it, 3 a COUNTER (5, 6, SINGLE) and
     * 4 a JOINT (7, 8, DOUBLE) on THE CAGE; CUPS 0 of 2 and 1 of 3; CLERKS 0 (3) and 1 (9); 1000 coins of each KIND.
     */
    private static FlyingChange shop() {
        FlyingChange x = new FlyingChange();
        x.post(0, false, 4, 2, true);
        x.post(1, true, 3, 1, false);
        x.post(0, true, 5, 6, false);
        x.post(0, false, 7, 8, true);
        x.cup(2);
        x.cup(3);
        x.clerk(3);
        x.clerk(9);
        for (int kind = 0; kind < 6; kind++) {
            x.drawer(kind, 1000);
        }
        return x;
    }

    /** Each number is tried on a shop of its own, so that none stands in the way of another. */
    private static void is(String call, Call c, int v, int due) {
        Due.is(call + " = " + v, c.with(shop(), v), due);
    }

    private static void ends(String call, Call c, int least, int dueAtLeast, int most, int dueAtMost, int beyond) {
        is(call, c, least, dueAtLeast);
        is(call, c, most, dueAtMost);
        for (int v : new int[] {least - 1, least - 1000, Integer.MIN_VALUE, most + 1, most + 1000, Integer.MAX_VALUE}) {
            is(call, c, v, beyond);
        }
    }

    private static void promise2post() {
        ends("post(under)", (x, v) -> x.post(v, true, 1, 1, true), 0, 5, 4, 5, UNKNOWN);
        ends("post(length)", (x, v) -> x.post(0, true, v, 1, true), 1, 5, 20, 5, OUTSIDE);
        ends("post(gap)", (x, v) -> x.post(0, false, 1, v, true), 1, 5, 10, 5, OUTSIDE);
        for (int v = 1; v <= 20; v++) {
            FlyingChange x = shop();
            int gap = (v + 1) / 2;
            Due.is("length " + v + ", gap " + gap, x.post(v % 2 * 4, v % 2 == 0, v, gap, v % 3 == 0), 5);
            Due.is("on which it hangs", x.about(5, 0), v % 2 * 4);
            Due.is("its sort", x.about(5, 1), 1 + (v + 1) % 2);
            Due.is("its length", x.about(5, 2), v);
            Due.is("its gap", x.about(5, 3), gap);
            Due.is("double", x.about(5, 4), v % 3 == 0 ? 1 : 0);
            Due.is("whole", x.about(5, 5), 1);
        }
    }

    private static void promise3joint() {
        is("joint(post)", (x, v) -> x.joint(v, 0, 1), 1, 0);
        is("joint(post)", (x, v) -> x.joint(v, 0, 1), 4, 0);
        for (int v : new int[] {-1, -1000, Integer.MIN_VALUE, 5, 16, Integer.MAX_VALUE}) {
            is("joint(post)", (x, w) -> x.joint(w, 0, 1), v, UNKNOWN);
        }
        for (int v : new int[] {0, 2, 3}) {
            is("joint(post)", (x, w) -> x.joint(w, 0, 1), v, STATE);
        }
        ends("joint(what)", (x, v) -> x.joint(1, v, 0), 0, 0, 2, 0, OUTSIDE);
        ends("joint(catch)", (x, v) -> x.joint(4, 0, v), 0, 0, 2, 0, OUTSIDE);
        ends("joint(worn)", (x, v) -> x.joint(4, 1, v), 2, 0, 9, 0, OUTSIDE);
        ends("joint(silent)", (x, v) -> x.joint(4, 2, v), 0, 0, 1, 0, OUTSIDE);
        is("joint(worn)", (x, v) -> x.joint(4, 1, v), 0, 0);
        is("joint(worn)", (x, v) -> x.joint(4, 1, v), -1, OUTSIDE);
    }

    private static void promise3jointIsWhatItWasTold() {
        FlyingChange x = shop();
        int[] worn = {0, 2, 3, 4, 5, 6, 7, 8, 9, 0};
        for (int i = 1; i < worn.length; i++) {
            Due.is("worn by " + worn[i] + ", was", x.joint(1, 1, worn[i]), worn[i - 1]);
        }
        int[] latches = {0, 1, 2, 2, 0};
        for (int i = 1; i < latches.length; i++) {
            Due.is("catch " + latches[i] + ", was", x.joint(1, 0, latches[i]), latches[i - 1]);
        }
        Due.is("each joint has its own catch", x.joint(4, 0, 0), 0);
        x.joint(1, 0, 2);
        x.joint(1, 1, 9);
        Due.is("catch and worn are no silence", x.joint(1, 2, 1), 0);
        Due.is("worn and silence are no catch", x.joint(1, 0, 0), 2);
        Due.is("catch and silence wear nothing", x.joint(1, 1, 0), 9);
        Due.is("the other is not worn", x.joint(4, 1, 0), 0);
        Due.is("the other is not silent", x.joint(4, 2, 0), 0);
    }

    private static void promise4about() {
        ends("about(post, 1)", (x, v) -> x.about(v, 1), 0, 0, 4, 1, UNKNOWN);
        ends("about(post, 0)", (x, v) -> x.about(v, 0), 0, NONE, 4, 0, UNKNOWN);
        ends("about(2, what)", (x, v) -> x.about(2, v), 0, 1, 5, 1, OUTSIDE);
        ends("about(0, what)", (x, v) -> x.about(0, v), 0, NONE, 5, NONE, OUTSIDE);
    }

    private static void promise5cord() {
        ends("cord(post, false)", (x, v) -> x.cord(v, false), 1, 1, 4, 1, UNKNOWN);
        ends("cord(post, true)", (x, v) -> x.cord(v, true), 1, 1, 4, 1, UNKNOWN);
    }

    private static void promise6cup() {
        is("cup(counter)", FlyingChange::cup, 2, 2);
        is("cup(counter)", FlyingChange::cup, 3, 2);
        for (int v : new int[] {0, 1, 4}) {
            is("cup(counter)", FlyingChange::cup, v, STATE);
        }
        for (int v : new int[] {-1, Integer.MIN_VALUE, 5, 16, Integer.MAX_VALUE}) {
            is("cup(counter)", FlyingChange::cup, v, UNKNOWN);
        }
    }

    private static void promise7clerk() {
        ends("clerk(ticks)", FlyingChange::clerk, 1, 2, 30, 2, OUTSIDE);
        for (int ticks = 1; ticks <= 30; ticks++) {
            FlyingChange x = shop();
            x.clerk(ticks);
            Due.is("the ticks that he needs", x.clerkAt(2, 2), ticks);
        }
    }

    private static void promise8order() {
        ends("order(rule)", FlyingChange::order, 0, 0, 2, 0, OUTSIDE);
    }

    private static void promise9drawer() {
        ends("drawer(kind, 5)", (x, v) -> x.drawer(v, 5), 0, 1000, 5, 1000, OUTSIDE);
        ends("drawer(3, n)", (x, v) -> x.drawer(3, v), 0, 1000, 1000, 1000, OUTSIDE);
        FlyingChange x = shop();
        x.drawer(3, 0);
        Due.is("none lie there", x.till(3), 0);
        Due.is("a thousand, was", x.drawer(3, 1000), 0);
        Due.is("a thousand lie there", x.till(3), 1000);
    }

    private static void promise10fetch() {
        ends("fetch(kind, 1, 1)", (x, v) -> x.fetch(v, 1, 1), 0, 1, 5, 1, OUTSIDE);
        ends("fetch(0, n, 1)", (x, v) -> x.fetch(0, v, 1), 1, 1, 100, 1, OUTSIDE);
        ends("fetch(0, 1, ticks)", (x, v) -> x.fetch(0, 1, v), 1, 1, 200, 200, OUTSIDE);
        FlyingChange x = shop();
        x.fetch(5, 100, 200);
        x.fetch(0, 1, 1);
        x.tick(1);
        Due.is("one, a tick later", x.till(0), 1001);
        x.tick(198);
        Due.is("199 ticks later", x.till(5), 1000);
        x.tick(1);
        Due.is("a hundred, 200 ticks later", x.till(5), 1100);
    }

    private static void promise11send() {
        ends("send(cup, 1, 0, 1)", (x, v) -> x.send(v, 1, 0, 1), 0, 0, 1, 0, UNKNOWN);
        ends("send(1, price, 5, 50)", (x, v) -> x.send(1, v, 5, 50), 1, 2999, 3000, 0, OUTSIDE);
        ends("send(0, 1, kind, 2)", (x, v) -> x.send(0, 1, v, 2), 0, 1, 5, 119, OUTSIDE);
        ends("send(0, 1, 1, n)", (x, v) -> x.send(0, 1, 1, v), 1, 2, 50, 149, OUTSIDE);
    }

    private static void promise11sendIsWorthThePrice() {
        int[] worth = {1, 3, 6, 12, 30, 60};
        for (int kind = 0; kind < 6; kind++) {
            FlyingChange x = shop();
            int paid = 50 * worth[kind];
            Due.is("one too dear, kind " + kind, x.send(0, paid + 1, kind, 50), kind == 5 ? OUTSIDE : STATE);
            Due.is("just its price, kind " + kind, x.send(0, paid, kind, 50), 0);
            Due.is("one less, kind " + kind, x.send(1, paid - 1, kind, 50), 1);
            Due.is("paid in", x.total(5), 2 * paid);
        }
    }

    /** CUP 0 is STRAY at 3, and CUP 1, of 3, is HOME. */
    private static FlyingChange withStray() {
        FlyingChange x = new FlyingChange();
        x.post(0, false, 1, 1, true);
        x.post(1, true, 1, 1, true);
        x.post(1, true, 1, 1, true);
        x.cup(2);
        x.cup(3);
        x.clerk(1);
        x.joint(1, 1, 2);
        for (int i = 0; i < 2; i++) {
            x.send(0, 1, 0, 1);
            x.tick(10);
        }
        return x;
    }

    private static void promise12resend() {
        Due.is("the least cup", withStray().resend(0), 3);
        Due.is("the greatest cup", withStray().resend(1), STATE);
        for (int v : new int[] {-1, 2, 24, Integer.MIN_VALUE, Integer.MAX_VALUE}) {
            Due.is("resend(" + v + ")", withStray().resend(v), UNKNOWN);
        }
    }

    private static void promise13porter() {
        Due.is("the least cup: 2 ticks of length, at 3 each", withStray().porter(0), 26);
        Due.is("the greatest cup", withStray().porter(1), STATE);
        for (int v : new int[] {-1, 2, 24, Integer.MIN_VALUE, Integer.MAX_VALUE}) {
            Due.is("porter(" + v + ")", withStray().porter(v), UNKNOWN);
        }
    }

    private static void promise14cupAt() {
        ends("cupAt(cup, 5)", (x, v) -> x.cupAt(v, 5), 0, 2, 1, 3, UNKNOWN);
        ends("cupAt(0, what)", (x, v) -> x.cupAt(0, v), 0, 0, 8, NONE, OUTSIDE);
    }

    private static void promise15coins() {
        ends("coins(cup, 6)", (x, v) -> x.coins(v, 6), 0, 0, 1, 0, UNKNOWN);
        ends("coins(0, kind)", (x, v) -> {
            x.send(0, 1, 0, 7);
            return x.coins(0, v);
        }, 0, 7, 6, 7, OUTSIDE);
    }

    private static void promise16tick() {
        ends("tick(n)", FlyingChange::tick, 1, 1, 200, 200, OUTSIDE);
    }

    /** CUPS 0 and 1 of 3, 2 of 2 are in THE ROW; there are no CLERKS. */
    private static FlyingChange withRow() {
        FlyingChange x = new FlyingChange();
        x.post(0, false, 1, 1, true);
        x.post(1, true, 1, 1, true);
        x.post(1, true, 1, 1, true);
        x.cup(3);
        x.cup(3);
        x.cup(2);
        for (int cup = 0; cup < 3; cup++) {
            x.send(cup, 1, 0, 1);
            x.tick(1);
        }
        x.tick(9);
        return x;
    }

    private static void promise17row() {
        FlyingChange x = withRow();
        Due.is("row(0)", x.row(0), 0);
        Due.is("row(2)", x.row(2), 2);
        for (int v : new int[] {-1, 3, 24, Integer.MIN_VALUE, Integer.MAX_VALUE}) {
            Due.is("row(" + v + ")", x.row(v), NONE);
        }
    }

    private static void promise18clerkAt() {
        ends("clerkAt(clerk, 2)", (x, v) -> x.clerkAt(v, 2), 0, 3, 1, 9, UNKNOWN);
        ends("clerkAt(1, what)", (x, v) -> x.clerkAt(1, v), 0, NONE, 2, 9, OUTSIDE);
    }

    private static void promise19till() {
        ends("till(kind)", FlyingChange::till, 0, 1000, 6, 112000, OUTSIDE);
    }

    private static void promise20could() {
        ends("could(amount)", FlyingChange::could, 0, 0, 3000, 50, OUTSIDE);
    }

    private static void promise21gives() {
        ends("gives(amount, 5)", (x, v) -> x.gives(v, 5), 0, 0, 3000, 50, OUTSIDE);
        ends("gives(61, kind)", (x, v) -> x.gives(61, v), 0, 1, 5, 1, OUTSIDE);
    }

    private static void promise22on() {
        ends("on(post, true)", (x, v) -> x.on(v, true), 1, 0, 4, 0, UNKNOWN);
        ends("on(post, false)", (x, v) -> x.on(v, false), 1, 0, 4, 0, UNKNOWN);
    }

    private static void promise23waits() {
        for (int v : new int[] {2, 3}) {
            is("waits(counter, 2)", (x, w) -> x.waits(w, 2), v, NONE);
        }
        for (int v : new int[] {0, 1, 4}) {
            is("waits(counter, 2)", (x, w) -> x.waits(w, 2), v, STATE);
        }
        for (int v : new int[] {-1, 5, 16, Integer.MIN_VALUE, Integer.MAX_VALUE}) {
            is("waits(counter, 2)", (x, w) -> x.waits(w, 2), v, UNKNOWN);
        }
        ends("waits(3, what)", (x, v) -> x.waits(3, v), 0, 0, 4, 0, OUTSIDE);
    }

    private static void promise25best() {
        FlyingChange x = withRow();
        x.clerk(1);
        Due.is("best(0)", x.best(0), 0);
        Due.is("best(2)", x.best(2), 2);
        for (int v : new int[] {-1, 3, 6, 24, Integer.MIN_VALUE, Integer.MAX_VALUE}) {
            Due.is("best(" + v + ")", x.best(v), NONE);
        }
    }

    private static void promise26worstBy() {
        int[] due = {13, 13, 14};
        for (int rule = -2; rule <= 4; rule++) {
            FlyingChange x = withRow();
            x.clerk(1);
            Due.is("worstBy(" + rule + ")", x.worstBy(rule), rule < 0 || rule > 2 ? OUTSIDE : due[rule]);
        }
        Due.is("worstBy of the least", withRow().worstBy(Integer.MIN_VALUE), OUTSIDE);
        Due.is("worstBy of the greatest", withRow().worstBy(Integer.MAX_VALUE), OUTSIDE);
    }

    private static void promise27rush() {
        for (int v : new int[] {2, 3}) {
            is("rush(counter, 0, 1)", (x, w) -> x.rush(w, 0, 1), v, 0);
        }
        for (int v : new int[] {0, 1, 4}) {
            is("rush(counter, 0, 1)", (x, w) -> x.rush(w, 0, 1), v, STATE);
        }
        for (int v : new int[] {-1, 5, 16, Integer.MIN_VALUE, Integer.MAX_VALUE}) {
            is("rush(counter, 0, 1)", (x, w) -> x.rush(w, 0, 1), v, UNKNOWN);
        }
        ends("rush(3, hour, 1)", (x, v) -> x.rush(3, v, 1), 0, 0, 5, 0, OUTSIDE);
        ends("rush(3, 0, n)", (x, v) -> x.rush(3, 0, v), 0, 0, 300, 0, OUTSIDE);
        FlyingChange x = shop();
        for (int hour = 0; hour < 6; hour++) {
            Due.is("hour " + hour + ", at first", x.rush(2, hour, 300 - hour), 0);
        }
        for (int hour = 0; hour < 6; hour++) {
            Due.is("hour " + hour + ", was", x.rush(2, hour, 0), 300 - hour);
        }
    }

    private static int rushed(FlyingChange x) {
        x.rush(2, 0, 7);
        return x.rush(3, 5, 300);
    }

    private static void promise28load() {
        ends("load(post, 5)", (x, v) -> rushed(x) + x.load(v, 5), 1, 0, 4, 0, UNKNOWN);
        ends("load(3, hour)", (x, v) -> rushed(x) + x.load(3, v), 0, 0, 5, 300, OUTSIDE);
        ends("load(1, hour)", (x, v) -> rushed(x) + x.load(1, v), 0, 7, 5, 0, OUTSIDE);
    }

    private static void promise29lines() {
        ends("lines(post)", FlyingChange::lines, 1, 1, 4, 1, UNKNOWN);
    }

    private static void promise31vital() {
        ends("vital(hour)", (x, v) -> rushed(x) + x.vital(v), 0, 1, 5, 3, OUTSIDE);
    }

    private static void promise32loss() {
        ends("loss(post, 0)", (x, v) -> rushed(x) + x.loss(v, 0), 1, 4 * 7 * 4, 4, 0, UNKNOWN);
        ends("loss(3, hour)", (x, v) -> rushed(x) + x.loss(3, v), 0, 0, 5, 4 * 300 * 5, OUTSIDE);
    }

    private static void promise34bell() {
        FlyingChange x = withRow();
        Due.is("one for each of 3", x.bells(), 3);
        int[] ticks = {2, 3, 4};
        for (int i = 0; i < 3; i++) {
            Due.is("bell(" + i + ", true)", x.bell(i, true), ticks[i]);
            Due.is("bell(" + i + ", false)", x.bell(i, false), 1);
        }
        for (int v : new int[] {-1, 3, 300, Integer.MIN_VALUE, Integer.MAX_VALUE}) {
            Due.is("bell(" + v + ", true)", x.bell(v, true), NONE);
            Due.is("bell(" + v + ", false)", x.bell(v, false), NONE);
        }
    }

    private static void promise35mayBe() {
        FlyingChange x = withRow();
        Due.is("mayBe(0)", x.mayBe(0), 2);
        Due.is("mayBe(2)", x.mayBe(2), 2);
        for (int v : new int[] {-1, 3, 24, Integer.MIN_VALUE, Integer.MAX_VALUE}) {
            Due.is("mayBe(" + v + ")", x.mayBe(v), UNKNOWN);
        }
    }

    private static void promise36total() {
        ends("total(what)", FlyingChange::total, 0, 5, 7, 112000, OUTSIDE);
    }
}
