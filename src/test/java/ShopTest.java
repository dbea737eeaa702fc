/** Promises 1 to 10: a new object, and the shop. */
public final class ShopTest extends Shops {
    public static void main(String[] args) {
        promise1aNewObject();
        promise2post();
        promise2refusals();
        promise3joint();
        promise3refusals();
        promise4about();
        promise5cord();
        promise6cup();
        promise7clerk();
        promise8order();
        promise9drawer();
        promise10fetch();
        Due.end();
    }

    private static void promise1aNewObject() {
        FlyingChange x = new FlyingChange();
        int[] totals = {1, 0, 0, 0, 0, 0, 0, 0};
        for (int what = 0; what < totals.length; what++) {
            Due.is("new: total(" + what + ")", x.total(what), totals[what]);
        }
        for (int kind = 0; kind <= 6; kind++) {
            Due.is("new: till(" + kind + ")", x.till(kind), 0);
        }
        Due.is("new: about(0, 1)", x.about(0, 1), 0);
        Due.is("new: about(1, 1)", x.about(1, 1), UNKNOWN);
        Due.is("new: clerkAt(0, 0)", x.clerkAt(0, 0), UNKNOWN);
        Due.is("new: cupAt(0, 0)", x.cupAt(0, 0), UNKNOWN);
        Due.is("new: row(0)", x.row(0), NONE);
        Due.is("new: bells()", x.bells(), 0);
        Due.is("new: wanted()", x.wanted(), 0);
        Due.is("new: tick(1)", x.tick(1), 1);
        Due.is("another new: total(2)", new FlyingChange().total(2), 0);
    }

    private static void promise2post() {
        FlyingChange x = new FlyingChange();
        Due.is("joint under the cage", x.post(0, false, 1, 1, false), 1);
        Due.is("counter under a joint", x.post(1, true, 20, 10, true), 2);
        Due.is("joint under a joint", x.post(1, false, 7, 3, false), 3);
        Due.is("counter under the cage", x.post(0, true, 5, 5, true), 4);
        for (int i = 5; i < 16; i++) {
            Due.is("post " + i, x.post(3, i % 2 == 0, 1, 1, true), i);
        }
        Due.is("a 17th post", x.post(0, true, 1, 1, true), FULL);
        Due.is("under a counter, when full", x.post(2, true, 1, 1, true), STATE);
        Due.is("length 0, when full", x.post(0, true, 0, 1, true), OUTSIDE);
        Due.is("under none, when full", x.post(16, true, 1, 1, true), UNKNOWN);
        Due.is("posts", x.total(0), 16);
        Due.is("there is no post 16: about(16, 0)", x.about(16, 0), UNKNOWN);
        Due.is("there is no post 16: cord(16, true)", x.cord(16, true), UNKNOWN);
        Due.is("there is no post 16: on(16, true)", x.on(16, true), UNKNOWN);
        Due.is("the last one: cord(15, true)", x.cord(15, true), 1);
    }

    private static void promise2refusals() {
        FlyingChange x = new FlyingChange();
        Due.is("under -1", x.post(-1, true, 1, 1, true), UNKNOWN);
        Due.is("under 1", x.post(1, true, 1, 1, true), UNKNOWN);
        Due.is("under none, length 0", x.post(1, true, 0, 0, true), UNKNOWN);
        Due.is("under the least number", x.post(Integer.MIN_VALUE, true, 1, 1, true), UNKNOWN);
        Due.is("length 0", x.post(0, true, 0, 1, true), OUTSIDE);
        Due.is("length 21", x.post(0, true, 21, 1, true), OUTSIDE);
        Due.is("gap 0", x.post(0, true, 1, 0, true), OUTSIDE);
        Due.is("gap 11", x.post(0, true, 1, 11, true), OUTSIDE);
        Due.is("counter", x.post(0, true, 1, 1, true), 1);
        Due.is("under a counter", x.post(1, false, 1, 1, true), STATE);
        Due.is("under a counter, gap 11", x.post(1, false, 1, 11, true), OUTSIDE);
        Due.is("what is refused changes nothing", x.total(0), 2);
    }

    private static void promise3joint() {
        FlyingChange x = new FlyingChange();
        x.post(0, false, 1, 1, false);
        Due.is("catch 2, was", x.joint(1, 0, 2), 0);
        Due.is("catch 1, was", x.joint(1, 0, 1), 2);
        Due.is("catch 0, was", x.joint(1, 0, 0), 1);
        Due.is("catch 0 again, was", x.joint(1, 0, 0), 0);
        Due.is("worn by 2, was", x.joint(1, 1, 2), 0);
        Due.is("worn by 9, was", x.joint(1, 1, 9), 2);
        Due.is("not worn, was", x.joint(1, 1, 0), 9);
        Due.is("silent, was", x.joint(1, 2, 1), 0);
        Due.is("not silent, was", x.joint(1, 2, 0), 1);
        Due.is("not silent again, was", x.joint(1, 2, 0), 0);
    }

    private static void promise3refusals() {
        FlyingChange x = new FlyingChange();
        x.post(0, false, 1, 1, false);
        x.post(1, true, 1, 1, false);
        Due.is("joint(-1, 0, 0)", x.joint(-1, 0, 0), UNKNOWN);
        Due.is("joint(3, 9, 9)", x.joint(3, 9, 9), UNKNOWN);
        Due.is("of the cage", x.joint(0, 0, 0), STATE);
        Due.is("of a counter", x.joint(2, 1, 2), STATE);
        Due.is("of a counter, what = 3", x.joint(2, 3, 0), STATE);
        int[][] outside = {{-1, 0}, {3, 0}, {0, -1}, {0, 3}, {1, -1}, {1, 1}, {1, 10}, {2, -1}, {2, 2}};
        for (int[] o : outside) {
            Due.is("joint(1, " + o[0] + ", " + o[1] + ")", x.joint(1, o[0], o[1]), OUTSIDE);
        }
        Due.is("what is refused changes no catch", x.joint(1, 0, 1), 0);
        Due.is("what is refused wears nothing", x.joint(1, 1, 3), 0);
        Due.is("what is refused silences nothing", x.joint(1, 2, 1), 0);
    }

    private static void promise4about() {
        FlyingChange x = new FlyingChange();
        x.post(0, false, 4, 2, true);
        x.post(1, true, 20, 10, false);
        int[][] due = {{NONE, 0, NONE, NONE, NONE, NONE}, {0, 1, 4, 2, 1, 1}, {1, 2, 20, 10, 0, 1}};
        for (int post = 0; post < 3; post++) {
            for (int what = 0; what < 6; what++) {
                Due.is("about(" + post + ", " + what + ")", x.about(post, what), due[post][what]);
            }
            Due.is("about(" + post + ", -1)", x.about(post, -1), OUTSIDE);
            Due.is("about(" + post + ", 6)", x.about(post, 6), OUTSIDE);
        }
        x.cord(2, false);
        Due.is("broken: about(2, 5)", x.about(2, 5), 0);
        Due.is("the other is whole: about(1, 5)", x.about(1, 5), 1);
        Due.is("about(3, 0)", x.about(3, 0), UNKNOWN);
        Due.is("about(-1, 6)", x.about(-1, 6), UNKNOWN);
    }

    private static void promise5cord() {
        FlyingChange x = new FlyingChange();
        x.post(0, true, 3, 1, false);
        Due.is("breaks, was", x.cord(1, false), 1);
        Due.is("breaks again, was", x.cord(1, false), 0);
        Due.is("is mended, was", x.cord(1, true), 0);
        Due.is("is mended again, was", x.cord(1, true), 1);
        Due.is("of the cage", x.cord(0, false), UNKNOWN);
        Due.is("of none", x.cord(2, false), UNKNOWN);
        Due.is("of -1", x.cord(-1, true), UNKNOWN);
    }

    private static void promise6cup() {
        FlyingChange x = new FlyingChange();
        x.post(0, false, 1, 1, false);
        x.post(1, true, 1, 1, false);
        Due.is("cup(3)", x.cup(3), UNKNOWN);
        Due.is("cup(-1)", x.cup(-1), UNKNOWN);
        Due.is("of the cage", x.cup(0), STATE);
        Due.is("of a joint", x.cup(1), STATE);
        for (int i = 0; i < 24; i++) {
            Due.is("cup " + i, x.cup(2), i);
        }
        Due.is("a 25th cup", x.cup(2), FULL);
        Due.is("of a joint, when full", x.cup(1), STATE);
        Due.is("of none, when full", x.cup(9), UNKNOWN);
        Due.is("cups", x.total(1), 24);
        Due.is("there is no cup 24", x.cupAt(24, 0), UNKNOWN);
        Due.is("its home", x.cupAt(23, 5), 2);
        Due.is("it is at home", x.cupAt(23, 0), 0);
    }

    private static void promise7clerk() {
        FlyingChange x = new FlyingChange();
        Due.is("clerk(0)", x.clerk(0), OUTSIDE);
        Due.is("clerk(31)", x.clerk(31), OUTSIDE);
        Due.is("clerk(1)", x.clerk(1), 0);
        Due.is("clerk(30)", x.clerk(30), 1);
        Due.is("clerk(2)", x.clerk(2), 2);
        Due.is("clerk(3)", x.clerk(3), 3);
        Due.is("a 5th clerk", x.clerk(3), FULL);
        Due.is("clerk(-1), when full", x.clerk(-1), OUTSIDE);
        Due.is("clerks", x.total(4), 4);
        Due.is("there is no clerk 4", x.clerkAt(4, 0), UNKNOWN);
    }

    private static void promise8order() {
        FlyingChange x = new FlyingChange();
        Due.is("order(2), was", x.order(2), 0);
        Due.is("order(1), was", x.order(1), 2);
        Due.is("order(3)", x.order(3), OUTSIDE);
        Due.is("order(-1)", x.order(-1), OUTSIDE);
        Due.is("order(0), was", x.order(0), 1);
    }

    private static void promise9drawer() {
        FlyingChange x = new FlyingChange();
        Due.is("drawer(5, 1000), was", x.drawer(5, 1000), 0);
        Due.is("drawer(0, 7), was", x.drawer(0, 7), 0);
        Due.is("drawer(5, -1)", x.drawer(5, -1), OUTSIDE);
        Due.is("drawer(5, 1001)", x.drawer(5, 1001), OUTSIDE);
        Due.is("drawer(6, 0)", x.drawer(6, 0), OUTSIDE);
        Due.is("drawer(-1, 0)", x.drawer(-1, 0), OUTSIDE);
        Due.is("drawer(5, 0), was", x.drawer(5, 0), 1000);
        Due.is("till(0)", x.till(0), 7);
        Due.is("till(5)", x.till(5), 0);
    }

    private static void promise10fetch() {
        FlyingChange x = new FlyingChange();
        x.tick(3);
        Due.is("fetch(2, 5, 2)", x.fetch(2, 5, 2), 5);
        Due.is("fetch(2, 100, 200)", x.fetch(2, 100, 200), 203);
        x.tick(1);
        Due.is("a tick ahead of it", x.till(2), 0);
        x.tick(1);
        Due.is("at its tick", x.till(2), 5);
        x.tick(1);
        Due.is("once only", x.till(2), 5);
        int[][] outside = {{-1, 1, 1}, {6, 1, 1}, {0, 0, 1}, {0, 101, 1}, {0, 1, 0}, {0, 1, 201}};
        for (int[] o : outside) {
            Due.is("fetch(" + o[0] + ", " + o[1] + ", " + o[2] + ")", x.fetch(o[0], o[1], o[2]), OUTSIDE);
        }
        for (int i = 1; i < 20; i++) {
            Due.is("fetch " + i, x.fetch(i % 6, 1, 1), 7);
        }
        Due.is("a 21st at a time", x.fetch(0, 1, 1), FULL);
        Due.is("a wrong one, when full", x.fetch(0, 1, 0), OUTSIDE);
        x.tick(1);
        Due.is("19 are there: of kind 0", x.till(0), 3);
        Due.is("19 are there: of kind 1", x.till(1), 4);
        Due.is("there is room again", x.fetch(0, 1, 1), 8);
        x.fetch(5, 3, 2);
        x.tick(2);
        Due.is("of its own kind", x.till(5), 3 + 3);
        x.tick(194);
        Due.is("the late one is there", x.till(2), 108);
    }
}
