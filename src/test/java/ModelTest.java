import java.lang.reflect.InvocationTargetException;
import java.lang.reflect.Method;
import java.lang.reflect.Modifier;
import java.util.ArrayList;
import java.util.Arrays;
import java.util.HashMap;
import java.util.List;
import java.util.Map;
import java.util.Random;

/** Runs of calls by lot, of which each is to answer as the model of the document does. */
public final class ModelTest {
    private static final int RUNS = 200;
    private static final int CALLS = 512;
    private static final int[] WILD = {-1, 99, Integer.MIN_VALUE, Integer.MAX_VALUE};

    private static final Map<String, Method> FACE = new HashMap<>();
    private static final Map<String, Method> MODEL = new HashMap<>();

    private final Random lot;
    private final FlyingChange x = new FlyingChange();
    private final Model model = new Model();
    private final List<String> log = new ArrayList<>();
    private final List<Integer> joints = new ArrayList<>();
    private final List<Integer> counters = new ArrayList<>();
    private final boolean wild;
    private int calls;
    private boolean same = true;

    private ModelTest(long seed) {
        lot = new Random(seed);
        wild = lot.nextInt(4) == 0;
    }

    public static void main(String[] args) throws Exception {
        int runs = args.length > 0 ? Integer.parseInt(args[0]) : RUNS;
        for (Method m : FlyingChange.class.getDeclaredMethods()) {
            if (Modifier.isPublic(m.getModifiers())) {
                FACE.put(m.getName(), m);
                MODEL.put(m.getName(), Model.class.getDeclaredMethod(m.getName(), m.getParameterTypes()));
            }
        }
        for (int seed = 1; seed <= runs; seed++) {
            ModelTest run = new ModelTest(seed);
            run.go();
            if (!run.same) {
                System.out.println("run " + seed + ":\n" + String.join("\n", run.log));
                Due.holds("run " + seed, false);
                break;
            }
            Due.holds("run " + seed, true);
        }
        Due.end();
    }

    private int call(String name, Object... args) throws Exception {
        calls++;
        int due = answer(MODEL.get(name), model, args);
        int got = answer(FACE.get(name), x, args);
        log.add(name + Arrays.toString(args) + " = " + got + (got == due ? "" : ", due is " + due));
        same &= got == due;
        return due;
    }

    private static int answer(Method m, Object on, Object... args) throws Exception {
        try {
            return (Integer) m.invoke(on, args);
        } catch (InvocationTargetException e) {
            throw new IllegalStateException(m.getName() + Arrays.toString(args), e.getCause());
        }
    }

    private int upTo(int most) {
        return lot.nextInt(most + 1);
    }

    private int between(int least, int most) {
        return wild && lot.nextInt(12) == 0 ? WILD[upTo(3)] : least + upTo(most - least);
    }

    /** One past each end too. */
    private int around(int least, int most) {
        return between(least - (lot.nextInt(30) == 0 ? 1 : 0), most + (lot.nextInt(30) == 0 ? 1 : 0));
    }

    private int any(List<Integer> of) {
        return wild && lot.nextInt(12) == 0 || of.isEmpty() ? around(0, 16) : of.get(lot.nextInt(of.size()));
    }

    private int anyCup() {
        return around(0, Math.max(0, model.total(1) - 1));
    }

    private int anyPost() {
        return around(0, model.total(0) - 1);
    }

    private void go() throws Exception {
        build();
        int ticks = new int[] {1, 3, 10, 60, 200}[upTo(4)];
        while (same && calls < CALLS - 150) {
            act(ticks);
        }
        while (same && calls < CALLS) {
            look();
        }
    }

    private void hang() throws Exception {
        boolean counter = lot.nextInt(3) > 0;
        int under = joints.isEmpty() || lot.nextInt(3) == 0 ? 0 : any(joints);
        int longest = lot.nextBoolean() ? 3 : 20;
        int p = call("post", under, counter, around(1, longest), around(1, lot.nextBoolean() ? 2 : 10), lot.nextBoolean());
        if (p > 0) {
            (counter ? counters : joints).add(p);
        }
    }

    private void build() throws Exception {
        int posts = 2 + upTo(13);
        for (int i = 0; i < posts; i++) {
            hang();
        }
        int cups = 1 + upTo(25);
        for (int i = 0; i < cups; i++) {
            call("cup", any(counters));
        }
        int clerks = upTo(4);
        for (int i = 0; i < clerks; i++) {
            call("clerk", around(1, lot.nextBoolean() ? 3 : 30));
        }
        int kinds = upTo(6);
        for (int i = 0; i < kinds; i++) {
            call("drawer", around(0, 5), around(0, lot.nextBoolean() ? 5 : 1000));
        }
        for (int j : joints) {
            call("joint", j, 0, upTo(2));
            if (lot.nextInt(2) == 0) {
                call("joint", j, 1, 2 + upTo(7));
            }
            call("joint", j, 2, lot.nextInt(3) == 0 ? 1 : 0);
        }
    }

    private void send() throws Exception {
        int kind = around(0, 5);
        int n = around(1, lot.nextBoolean() ? 4 : 50);
        int worth = kind >= 0 && kind < 6 && n > 0 && n < 51 ? n * new int[] {1, 3, 6, 12, 30, 60}[kind] : 3000;
        call("send", anyCup(), lot.nextBoolean() ? around(1, worth) : worth, kind, n);
    }

    private void act(int ticks) throws Exception {
        switch (lot.nextInt(24)) {
            case 0 -> change();
            case 1, 2, 3, 4, 5, 6, 7 -> send();
            case 8, 9, 10, 11, 12 -> call("tick", around(1, ticks));
            case 13 -> call("resend", stray());
            case 14 -> call("porter", stray());
            case 15 -> call("fetch", around(0, 5), around(1, 100), around(1, 200));
            case 16 -> call("cord", anyPost(), lot.nextInt(3) > 0);
            default -> look();
        }
    }

    /** A CUP that is not HOME and not WAITING to go on, if there is one. */
    private int stray() {
        int first = anyCup();
        for (int i = 0; i < 24 && lot.nextInt(20) > 0; i++) {
            int c = (Math.floorMod(first, 24) + i) % 24;
            int where = model.cupAt(c, 0);
            boolean forNone = where == 1 && model.cupAt(c, 3) == 0 && model.cupAt(c, 4) == FlyingChange.NONE;
            boolean broken = where == 2 && model.about(model.cupAt(c, 1), 5) == 0;
            if (where == 5 || forNone || broken) {
                return c;
            }
        }
        return first;
    }

    private void change() throws Exception {
        switch (lot.nextInt(9)) {
            case 0 -> hang();
            case 1 -> call("joint", any(joints), around(0, 2), around(0, 2));
            case 2 -> call("joint", any(joints), 1, around(0, 9));
            case 3 -> call("joint", anyPost(), around(0, 2), around(0, 9));
            case 4 -> call("cup", anyPost());
            case 5 -> call("clerk", around(1, 30));
            case 6 -> call("order", around(0, 2));
            case 7 -> call("drawer", around(0, 5), around(0, lot.nextBoolean() ? 5 : 1000));
            default -> call("rush", lot.nextBoolean() ? any(counters) : anyPost(), around(0, 5), around(0, 300));
        }
    }

    private void look() throws Exception {
        switch (lot.nextInt(22)) {
            case 0 -> call("about", anyPost(), around(0, 5));
            case 1, 2, 3, 4 -> call("cupAt", anyCup(), around(0, 8));
            case 5 -> call("coins", anyCup(), around(0, 6));
            case 6 -> call("row", around(0, 6));
            case 7 -> call("clerkAt", around(0, 3), around(0, 2));
            case 8 -> call("till", around(0, 6));
            case 9 -> call("could", around(0, lot.nextBoolean() ? 60 : 3000));
            case 10 -> call("gives", around(0, lot.nextBoolean() ? 200 : 3000), around(0, 5));
            case 11 -> call("on", anyPost(), lot.nextBoolean());
            case 12 -> call("waits", lot.nextInt(4) > 0 ? any(counters) : anyPost(), around(0, 4));
            case 13 -> call("worst");
            case 14 -> lookAtBest();
            case 15 -> call("worstBy", around(0, 2));
            case 16 -> call("load", anyPost(), around(0, 5));
            case 17 -> lookAtRush();
            case 18 -> call("bells");
            case 19 -> call("bell", around(0, 300), lot.nextBoolean());
            case 20 -> call("mayBe", anyCup());
            default -> call("total", around(0, 7));
        }
    }

    /** The document leaves open what is told of a place that is not there while more than 6 are in THE ROW. */
    private void lookAtBest() throws Exception {
        boolean tooMany = model.row(6) != FlyingChange.NONE;
        call("best", tooMany ? upTo(5) : around(0, 5));
    }

    private void lookAtRush() throws Exception {
        switch (lot.nextInt(4)) {
            case 0 -> call("lines", anyPost());
            case 1 -> call("wanted");
            case 2 -> call("vital", around(0, 5));
            default -> call("loss", anyPost(), around(0, 5));
        }
    }
}
