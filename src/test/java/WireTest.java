/** The rules of one WIRE, wherever it hangs: of a COUNTER or a JOINT, on THE CAGE or on a JOINT. */
public final class WireTest extends Shops {
    private static final int UPS_FIRST = 0, LIKE = 1, DOWNS_FIRST = 2;

    private final FlyingChange x = new FlyingChange();
    private final String told;
    private final boolean ofJoint;
    private final boolean onJoint;
    private final int length;
    private final int gap;
    private final boolean both;
    private final int stamps;
    /** The WIRE that is looked at; the COUNTERS from which CUPS 0 .. 3 come to it; CUPS 0 and 1 are to go UP, 2 and 3 down. */
    private int wire;

    private WireTest(int sort, int length, int gap, boolean both, int stamps) {
        ofJoint = sort % 2 == 1;
        onJoint = sort >= 2;
        this.length = length;
        this.gap = gap;
        this.both = both;
        this.stamps = stamps;
        told = (ofJoint ? "joint on " : "counter on ") + (onJoint ? "joint" : "cage") + ", length " + length + ", gap " + gap
            + (both ? ", double" : ", single") + ", stamps " + stamps;
    }

    public static void main(String[] args) {
        for (int sort = 0; sort < 4; sort++) {
            for (int length : new int[] {1, 3, 8}) {
                for (int gap : new int[] {1, 2, 5}) {
                    for (int stamps = UPS_FIRST; stamps <= DOWNS_FIRST; stamps++) {
                        new WireTest(sort, length, gap, false, stamps).promise16letsOn();
                        new WireTest(sort, length, gap, true, stamps).promise16letsOn();
                    }
                }
            }
        }
        promise16aloneOnAWay(false);
        promise16aloneOnAWay(true);
        Due.end();
    }

    private int shop() {
        int above = onJoint ? x.post(0, false, 1, 1, true) : 0;
        wire = x.post(above, !ofJoint, length, gap, both);
        int[] counters = {wire, wire};
        if (ofJoint) {
            counters[0] = x.post(wire, true, 1, 1, true);
            counters[1] = x.post(wire, true, 1, 1, true);
        }
        for (int cup = 0; cup < 4; cup++) {
            x.cup(counters[cup % 2]);
        }
        return above;
    }

    /** All four wait for the WIRE, which is BROKEN; of those that come to it together the least CUP is the first. */
    private void gather() {
        int above = shop();
        send(2);
        send(3);
        x.tick(60);
        Due.is(told + ": two are in the row", x.row(1), 3);
        x.cord(wire, false);
        if (stamps == UPS_FIRST) {
            send(0);
            send(1);
            x.tick(9);
        }
        x.clerk(5);
        x.clerk(5);
        int done = onJoint ? 7 : 6;
        int up = ofJoint ? 2 : 0;
        x.tick(stamps == LIKE ? done - up : 30);
        if (stamps != UPS_FIRST) {
            send(0);
            send(1);
        }
        x.tick(9);
        for (int cup = 0; cup < 4; cup++) {
            Due.is(told + ": waiting", x.cupAt(cup, 0), WAITING);
            Due.is(told + ": its post", x.cupAt(cup, 1), cup < 2 ? wire : above);
        }
        int earlier = Integer.compare(x.cupAt(0, 2), x.cupAt(2, 2));
        Due.is(told + ": whose stamp is less", earlier, stamps - 1);
    }

    private void send(int cup) {
        Due.is(told + ": send", x.send(cup, 1, 0, 1), 0);
    }

    /** In how many ticks each goes on, when the WIRE is whole: no sooner than GAP behind the one ahead. */
    private int[] due() {
        int[] due = {1, 1 + gap, 1, 1 + gap};
        if (!both) {
            int later = gap + Math.max(gap, length);
            int first = stamps == DOWNS_FIRST ? 0 : 2;
            due[first] += later;
            due[first + 1] += later;
        }
        return due;
    }

    private void promise16letsOn() {
        gather();
        x.cord(wire, true);
        int[] due = due();
        int last = Math.max(due[1], due[3]);
        for (int t = 1; t <= last; t++) {
            x.tick(1);
            for (int cup = 0; cup < 4; cup++) {
                String call = told + ", " + t + " ticks later: cupAt(" + cup + ", ";
                if (t < due[cup]) {
                    Due.is(call + "0)", x.cupAt(cup, 0), WAITING);
                } else if (t < due[cup] + length) {
                    Due.is(call + "1)", x.cupAt(cup, 1), wire);
                    Due.is(call + "2)", x.cupAt(cup, 2), t - due[cup]);
                    Due.is(call + "3)", x.cupAt(cup, 3), cup < 2 ? 1 : 0);
                }
            }
            Due.is(told + ", " + t + " ticks later: up", x.on(wire, true), onIt(due, t, 0));
            Due.is(told + ", " + t + " ticks later: down", x.on(wire, false), onIt(due, t, 2));
        }
    }

    private int onIt(int[] due, int t, int first) {
        int sum = 0;
        for (int cup = first; cup < first + 2; cup++) {
            sum += t >= due[cup] && t < due[cup] + length ? 1 : 0;
        }
        return sum;
    }

    /** A CUP that is alone waits nowhere: it goes on in the TICK in which it comes, and rings at each JOINT. */
    private static void promise16aloneOnAWay(boolean both) {
        int[] lengths = {0, 3, 1, 7, 2, 20, 5};
        FlyingChange x = new FlyingChange();
        int way = 0;
        for (int i = 1; i <= 6; i++) {
            x.post(i - 1, i == 6, lengths[i], 11 - i, both);
            way += lengths[i];
        }
        x.cup(6);
        x.tick(4);
        x.send(0, 1, 0, 1);
        int come = 0;
        int at = 6;
        for (int t = 0; t <= way; t++) {
            x.tick(1);
            if (t == come + lengths[at]) {
                come += lengths[at];
                at--;
            }
            String when = "alone, " + t + " ticks on its way: ";
            Due.is(when + "on a wire", x.cupAt(0, 0), at == 0 ? 3 : ON_WIRE);
            Due.is(when + "its place", x.cupAt(0, 2), at == 0 ? 5 + way : t - come);
            Due.is(when + "its wire", x.on(at == 0 ? 1 : at, true), at == 0 ? 0 : 1);
            Due.is(when + "bells", x.bells(), Math.min(5, 6 - at));
            Due.is(when + "mayBe(0)", x.mayBe(0), 6 - at);
        }
        for (int i = 0; i < 5; i++) {
            Due.is("alone: bell(" + i + ", false)", x.bell(i, false), 5 - i);
        }
    }
}
