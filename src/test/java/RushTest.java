/** Promises 27 to 32: A RUSH and THE LOSS. */
public final class RushTest extends Shops {
    public static void main(String[] args) {
        promise27rush();
        promise28load();
        promise29lines();
        promise29edges();
        promise29inEachHour();
        promise30wanted();
        promise31vital();
        promise31ofLikeLosses();
        promise32loss();
        promise28toPromise32ofBrokenWires();
        Due.end();
    }

    /** JOINTS 1 (LENGTH 3, GAP 2) and 2 (5, 4) on THE CAGE; COUNTERS 3 (2, 1) and 4 (9, 3) on 1, and 5 (1, 1) on 2. */
    private static FlyingChange shop() {
        FlyingChange x = new FlyingChange();
        x.post(0, false, 3, 2, true);
        x.post(0, false, 5, 4, false);
        x.post(1, true, 2, 1, true);
        x.post(1, true, 9, 3, true);
        x.post(2, true, 1, 1, true);
        return x;
    }

    private static void promise27rush() {
        FlyingChange x = shop();
        Due.is("rush(3, 0, 300), was", x.rush(3, 0, 300), 0);
        Due.is("rush(3, 5, 7), was", x.rush(3, 5, 7), 0);
        Due.is("rush(3, 0, 0), was", x.rush(3, 0, 0), 300);
        Due.is("rush(3, 0, 1), was", x.rush(3, 0, 1), 0);
        Due.is("rush(3, 5, 8), was", x.rush(3, 5, 8), 7);
        Due.is("of none", x.rush(6, 0, 0), UNKNOWN);
        Due.is("of -1", x.rush(-1, 9, 0), UNKNOWN);
        Due.is("of the cage", x.rush(0, 0, 0), STATE);
        Due.is("of a joint, hour 6", x.rush(1, 6, 0), STATE);
        int[][] outside = {{-1, 0}, {6, 0}, {0, -1}, {0, 301}};
        for (int[] o : outside) {
            Due.is("rush(3, " + o[0] + ", " + o[1] + ")", x.rush(3, o[0], o[1]), OUTSIDE);
        }
        Due.is("what is refused changes nothing", x.load(3, 0), 1);
    }

    private static void promise28load() {
        FlyingChange x = shop();
        x.rush(3, 0, 100);
        x.rush(4, 0, 200);
        x.rush(5, 0, 80);
        x.rush(4, 1, 9);
        int[] due = {300, 80, 100, 200, 80};
        for (int post = 1; post <= 5; post++) {
            Due.is("load(" + post + ", 0)", x.load(post, 0), due[post - 1]);
        }
        Due.is("load(1, 1)", x.load(1, 1), 9);
        Due.is("load(1, 5)", x.load(1, 5), 0);
        x.rush(3, 0, 40);
        Due.is("load(1, 0), when 3 sends less", x.load(1, 0), 240);
        x.post(2, true, 1, 1, true);
        x.rush(6, 0, 5);
        Due.is("load(2, 0), with a new counter", x.load(2, 0), 85);
        Due.is("of the cage", x.load(0, 0), UNKNOWN);
        Due.is("of none", x.load(7, 6), UNKNOWN);
        Due.is("of -1", x.load(-1, 0), UNKNOWN);
        Due.is("load(1, 6)", x.load(1, 6), OUTSIDE);
        Due.is("load(1, -1)", x.load(1, -1), OUTSIDE);
    }

    private static void promise29lines() {
        FlyingChange x = shop();
        Due.is("no rush: lines(1)", x.lines(1), 1);
        x.rush(3, 0, 100);
        x.rush(4, 0, 200);
        x.rush(5, 0, 80);
        x.rush(3, 5, 300);
        int[] due = {2, 2, 2, 2, 1};
        for (int post = 1; post <= 5; post++) {
            Due.is("lines(" + post + ")", x.lines(post), due[post - 1]);
        }
        x.rush(4, 5, 300);
        Due.is("600 times 2 by 720, cut up, twice", x.lines(1), 4);
        Due.is("of the cage", x.lines(0), UNKNOWN);
        Due.is("of none", x.lines(6), UNKNOWN);
        Due.is("of -1", x.lines(-1), UNKNOWN);
    }

    private static FlyingChange oneWire(int length, int gap, int load) {
        FlyingChange x = new FlyingChange();
        x.post(0, true, length, gap, true);
        x.rush(1, 3, load);
        return x;
    }

    private static void promise29edges() {
        Due.is("twice 36 times 10 is 720", oneWire(10, 10, 36).lines(1), 1);
        Due.is("twice 37 times 10 is more", oneWire(10, 10, 37).lines(1), 2);
        Due.is("72 times 10 by 720 is 1", oneWire(10, 10, 72).lines(1), 2);
        Due.is("73 times 10 by 720 is above 1", oneWire(10, 10, 73).lines(1), 4);
        Due.is("103 times 7 is 721: by 720 above 1", oneWire(20, 7, 103).lines(1), 4);
        Due.is("300 times 10 by 720 is 4 and more", oneWire(20, 10, 300).lines(1), 10);
        Due.is("288 times 10 by 720 is 4", oneWire(20, 10, 288).lines(1), 8);
        FlyingChange x = oneWire(10, 10, 36);
        x.rush(1, 0, 300);
        Due.is("the hour where that is most", x.lines(1), 10);
        x.rush(1, 0, 0);
        Due.is("no more", x.lines(1), 1);
    }

    private static void promise29inEachHour() {
        for (int hour = 0; hour < 6; hour++) {
            FlyingChange x = new FlyingChange();
            x.post(0, false, 10, 10, false);
            x.post(1, true, 1, 1, true);
            int[] loads = {36, 37, 72, 73, 144, 145, 300};
            int[] due = {1, 2, 2, 4, 4, 6, 10};
            for (int i = 0; i < loads.length; i++) {
                x.rush(2, hour, loads[i]);
                Due.is("hour " + hour + ", load " + loads[i] + ": lines(1)", x.lines(1), due[i]);
                Due.is("hour " + hour + ", load " + loads[i] + ": wanted()", x.wanted(), 10 * due[i] + 1);
            }
        }
    }

    private static void promise30wanted() {
        FlyingChange x = shop();
        Due.is("one line each", x.wanted(), 3 + 5 + 2 + 9 + 1);
        x.rush(3, 0, 100);
        x.rush(4, 0, 200);
        x.rush(5, 0, 80);
        x.rush(3, 5, 300);
        Due.is("two of all but the last", x.wanted(), 2 * (3 + 5 + 2 + 9) + 1);
        Due.is("no wires", new FlyingChange().wanted(), 0);
    }

    private static void promise31vital() {
        FlyingChange x = shop();
        Due.is("no load", x.vital(0), NONE);
        x.rush(3, 0, 100);
        x.rush(4, 0, 200);
        x.rush(3, 5, 300);
        Due.is("300 times 3, 100 times 2, 200 times 9", x.vital(0), 4);
        Due.is("300 times 3, 300 times 2", x.vital(5), 1);
        Due.is("none in that hour", x.vital(1), NONE);
        x.rush(3, 0, 300);
        x.rush(4, 0, 150);
        Due.is("of like ones the least: 450 times 3, 150 times 9", x.vital(0), 1);
        Due.is("vital(6)", x.vital(6), OUTSIDE);
        Due.is("vital(-1)", x.vital(-1), OUTSIDE);
        Due.is("no wires", new FlyingChange().vital(0), NONE);
    }

    private static void promise31ofLikeLosses() {
        FlyingChange x = new FlyingChange();
        x.post(0, true, 9, 1, true);
        x.post(0, true, 3, 1, true);
        x.post(0, true, 18, 1, true);
        x.rush(1, 0, 100);
        x.rush(2, 0, 300);
        x.rush(3, 0, 50);
        Due.is("all three lose as much: the least", x.vital(0), 1);
        x.rush(1, 0, 99);
        Due.is("two of them: the least", x.vital(0), 2);
        x.rush(3, 0, 51);
        Due.is("the last one is above it", x.vital(0), 3);
    }

    private static void promise32loss() {
        FlyingChange x = shop();
        x.rush(3, 2, 100);
        x.rush(4, 2, 200);
        Due.is("loss(1, 2)", x.loss(1, 2), 4 * 300 * 3);
        Due.is("loss(3, 2)", x.loss(3, 2), 4 * 100 * 2);
        Due.is("loss(4, 2)", x.loss(4, 2), 4 * 200 * 9);
        Due.is("loss(2, 2)", x.loss(2, 2), 0);
        Due.is("loss(1, 3)", x.loss(1, 3), 0);
        x.rush(4, 0, 7);
        x.rush(4, 5, 8);
        Due.is("loss(4, 0)", x.loss(4, 0), 4 * 7 * 9);
        Due.is("loss(4, 5)", x.loss(4, 5), 4 * 8 * 9);
        Due.is("of the cage", x.loss(0, 2), UNKNOWN);
        Due.is("of none", x.loss(6, 9), UNKNOWN);
        Due.is("of -1", x.loss(-1, 2), UNKNOWN);
        Due.is("loss(1, 6)", x.loss(1, 6), OUTSIDE);
        Due.is("loss(1, -1)", x.loss(1, -1), OUTSIDE);
    }

    private static void promise28toPromise32ofBrokenWires() {
        FlyingChange x = shop();
        x.rush(4, 2, 200);
        for (int wire = 1; wire <= 5; wire++) {
            x.cord(wire, false);
        }
        Due.is("broken: load(1, 2)", x.load(1, 2), 200);
        Due.is("broken: loss(4, 2)", x.loss(4, 2), 4 * 200 * 9);
        Due.is("broken: vital(2)", x.vital(2), 4);
        Due.is("broken: lines(4)", x.lines(4), 2);
        Due.is("broken: wanted()", x.wanted(), 2 * 3 + 5 + 2 + 2 * 9 + 1);
        Due.is("broken: rush(4, 2, 0), was", x.rush(4, 2, 0), 200);
    }
}
