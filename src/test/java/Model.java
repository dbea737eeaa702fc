import java.util.ArrayList;
import java.util.Arrays;
import java.util.Comparator;
import java.util.List;

/**
 * The document once more, word by word and without any shortcut, for ModelTest to compare with. It shares
 * nothing with the class: it counts children anew, keeps all that ever went on a wire, tries all coins and orders.
 */
final class Model {
    private static final int UNKNOWN = -1, OUTSIDE = -2, STATE = -3, FULL = -4, NONE = -9;
    private static final int[] WORTH = {1, 3, 6, 12, 30, 60};

    private static final class Post {
        int under = NONE, sort, length, gap, latch, worn, came, lastUp;
        boolean both, whole = true, silent;
        int[] rush = new int[6];
        int done, refused, greatest = NONE, together, handed;
        /** {TICK, 1: UP, 0: down} of each CUP that went on. */
        List<int[]> went = new ArrayList<>();
    }

    private static final class Cup {
        int where, at, place, stamp, due, child = NONE, from, home, sale, price, sent, clerk;
        boolean up;
        int[] coins = new int[6];
    }

    private static final class Clerk {
        int cup = NONE, left, needs;
    }

    private final List<Post> posts = new ArrayList<>();
    private final List<Cup> cups = new ArrayList<>();
    private final List<Clerk> clerks = new ArrayList<>();
    private final List<int[]> fetched = new ArrayList<>();
    private final List<int[]> rung = new ArrayList<>();
    private final int[] till = new int[6];
    private int now, orderRule, paid, handed;

    Model() {
        posts.add(new Post());
    }

    private static boolean in(int v, int a, int b) {
        return a <= v && v <= b;
    }

    private boolean isPost(int p) {
        return in(p, 0, posts.size() - 1);
    }

    private boolean isWire(int p) {
        return in(p, 1, posts.size() - 1);
    }

    private boolean isCup(int c) {
        return in(c, 0, cups.size() - 1);
    }

    private static int worthOf(int[] coins) {
        int sum = 0;
        for (int k = 0; k < 6; k++) {
            sum += coins[k] * WORTH[k];
        }
        return sum;
    }

    private List<Integer> children(int post) {
        List<Integer> of = new ArrayList<>();
        for (int p = 1; p < posts.size(); p++) {
            if (posts.get(p).under == post) {
                of.add(p);
            }
        }
        return of;
    }

    private boolean liesBelow(int a, int b) {
        return a == b || a != 0 && liesBelow(posts.get(a).under, b);
    }

    int post(int under, boolean counter, int length, int gap, boolean both) {
        if (!isPost(under)) return UNKNOWN;
        if (!in(length, 1, 20) || !in(gap, 1, 10)) return OUTSIDE;
        if (posts.get(under).sort == 2) return STATE;
        if (posts.size() == 16) return FULL;
        Post p = new Post();
        p.under = under;
        p.sort = counter ? 2 : 1;
        p.length = length;
        p.gap = gap;
        p.both = both;
        posts.add(p);
        return posts.size() - 1;
    }

    int joint(int post, int what, int v) {
        if (!isPost(post)) return UNKNOWN;
        Post p = posts.get(post);
        if (p.sort != 1) return STATE;
        if (what == 0 && in(v, 0, 2)) {
            int was = p.latch;
            p.latch = v;
            return was;
        }
        if (what == 1 && in(v, 0, 9) && v != 1) {
            int was = p.worn;
            p.worn = v;
            p.came = 0;
            return was;
        }
        if (what == 2 && in(v, 0, 1)) {
            int was = p.silent ? 1 : 0;
            p.silent = v == 1;
            return was;
        }
        return OUTSIDE;
    }

    int about(int post, int what) {
        if (!isPost(post)) return UNKNOWN;
        if (!in(what, 0, 5)) return OUTSIDE;
        Post p = posts.get(post);
        if (what == 1) return p.sort;
        if (post == 0) return NONE;
        return new int[] {p.under, p.sort, p.length, p.gap, p.both ? 1 : 0, p.whole ? 1 : 0}[what];
    }

    int cord(int post, boolean whole) {
        if (!isWire(post)) return UNKNOWN;
        int was = posts.get(post).whole ? 1 : 0;
        posts.get(post).whole = whole;
        return was;
    }

    int cup(int counter) {
        if (!isPost(counter)) return UNKNOWN;
        if (posts.get(counter).sort != 2) return STATE;
        if (cups.size() == 24) return FULL;
        Cup c = new Cup();
        c.home = counter;
        c.at = counter;
        cups.add(c);
        return cups.size() - 1;
    }

    int clerk(int ticks) {
        if (!in(ticks, 1, 30)) return OUTSIDE;
        if (clerks.size() == 4) return FULL;
        Clerk k = new Clerk();
        k.needs = ticks;
        clerks.add(k);
        return clerks.size() - 1;
    }

    int order(int rule) {
        if (!in(rule, 0, 2)) return OUTSIDE;
        int was = orderRule;
        orderRule = rule;
        return was;
    }

    int drawer(int kind, int n) {
        if (!in(kind, 0, 5) || !in(n, 0, 1000)) return OUTSIDE;
        int was = till[kind];
        till[kind] = n;
        return was;
    }

    int fetch(int kind, int n, int ticks) {
        if (!in(kind, 0, 5) || !in(n, 1, 100) || !in(ticks, 1, 200)) return OUTSIDE;
        if (fetched.size() == 20) return FULL;
        fetched.add(new int[] {now + ticks, kind, n});
        return now + ticks;
    }

    int send(int cup, int price, int kind, int n) {
        if (!isCup(cup)) return UNKNOWN;
        if (!in(price, 1, 3000) || !in(kind, 0, 5) || !in(n, 1, 50)) return OUTSIDE;
        Cup c = cups.get(cup);
        if (c.where != 0 || n * WORTH[kind] < price) return STATE;
        c.coins = new int[6];
        c.coins[kind] = n;
        paid += n * WORTH[kind];
        c.sale = 1;
        c.price = price;
        c.sent = now;
        waitUp(c, c.home, NONE);
        return n * WORTH[kind] - price;
    }

    private void waitUp(Cup c, int post, int from) {
        c.where = 1;
        c.at = post;
        c.up = true;
        c.stamp = now;
        c.from = from;
        c.child = NONE;
    }

    private void waitDown(Cup c, int post, int child) {
        c.where = 1;
        c.at = post;
        c.up = false;
        c.stamp = now;
        c.child = child;
    }

    int resend(int cup) {
        if (!isCup(cup)) return UNKNOWN;
        Cup c = cups.get(cup);
        if (c.where != 5) return STATE;
        waitUp(c, c.at, NONE);
        return c.at;
    }

    private List<Integer> wayUp(int post) {
        List<Integer> way = new ArrayList<>();
        for (int p = post; p != NONE; p = posts.get(p).under) {
            way.add(p);
        }
        return way;
    }

    int porter(int cup) {
        if (!isCup(cup)) return UNKNOWN;
        Cup c = cups.get(cup);
        boolean may = c.where == 2 && !posts.get(c.at).whole || c.where == 5
            || c.where == 1 && !c.up && c.child == NONE;
        if (!may) return STATE;
        int sum = 0;
        for (int p : wayUp(c.at)) {
            sum += wayUp(c.home).contains(p) ? 0 : posts.get(p).length;
        }
        for (int p : wayUp(c.home)) {
            sum += wayUp(c.at).contains(p) ? 0 : posts.get(p).length;
        }
        c.where = 6;
        c.due = now + (sum == 0 ? 1 : 3 * sum);
        return c.due;
    }

    int cupAt(int cup, int what) {
        if (!isCup(cup)) return UNKNOWN;
        if (!in(what, 0, 8)) return OUTSIDE;
        Cup c = cups.get(cup);
        if (what == 0) return c.where;
        if (what == 1) return in(c.where, 0, 2) || c.where == 5 ? c.at : c.where == 4 ? c.clerk : NONE;
        if (what == 2) {
            return switch (c.where) {
                case 1, 3 -> c.stamp;
                case 2 -> c.place;
                case 4 -> clerks.get(c.clerk).left;
                case 6 -> c.due;
                default -> NONE;
            };
        }
        if (what == 3) return in(c.where, 1, 2) ? (c.up ? 1 : 0) : NONE;
        if (what == 4) return c.where == 1 && !c.up ? c.child : NONE;
        if (what == 5) return c.home;
        if (what == 6) return c.sale;
        return c.sale == 0 ? NONE : what == 7 ? c.price : c.sent;
    }

    int coins(int cup, int kind) {
        if (!isCup(cup)) return UNKNOWN;
        if (!in(kind, 0, 6)) return OUTSIDE;
        return kind == 6 ? worthOf(cups.get(cup).coins) : cups.get(cup).coins[kind];
    }

    int tick(int n) {
        if (!in(n, 1, 200)) return OUTSIDE;
        if (now + n > 20000) return FULL;
        for (int i = 0; i < n; i++) {
            oneTick();
        }
        return now;
    }

    private void oneTick() {
        now++;
        for (Cup c : cups) {
            if (c.where == 2 && posts.get(c.at).whole && ++c.place == posts.get(c.at).length) {
                comes(c, c.at);
            }
        }
        for (Cup c : cups) {
            if (c.where == 6 && c.due == now) {
                comesHome(c);
            }
        }
        for (Clerk k : clerks) {
            if (k.cup != NONE && --k.left == 0) {
                clerkIsDone(k);
            }
        }
        for (int[] f : fetched) {
            till[f[1]] += f[0] == now ? f[2] : 0;
        }
        fetched.removeIf(f -> f[0] == now);
        for (int k = 0; k < clerks.size(); k++) {
            List<Integer> row = rowBy(orderRule);
            if (clerks.get(k).cup == NONE && !row.isEmpty()) {
                Cup c = cups.get(row.get(0));
                c.where = 4;
                c.clerk = k;
                clerks.get(k).cup = row.get(0);
                clerks.get(k).left = clerks.get(k).needs;
            }
        }
        for (int w = 1; w < posts.size(); w++) {
            letOn(w);
        }
    }

    private void comes(Cup c, int wire) {
        int to = c.up ? posts.get(wire).under : wire;
        Post p = posts.get(to);
        if (p.sort == 0) {
            c.where = 3;
            c.stamp = now;
        } else if (p.sort == 2) {
            if (c.home == to) {
                comesHome(c);
            } else {
                c.where = 5;
                c.at = to;
            }
        } else {
            if (c.up) {
                waitUp(c, to, wire);
            } else {
                waitDown(c, to, catchOf(p, to, c));
            }
            if (!p.silent) {
                rung.add(new int[] {to, now});
                if (rung.size() > 300) {
                    rung.remove(0);
                }
            }
        }
    }

    private int catchOf(Post p, int post, Cup c) {
        p.came++;
        List<Integer> kids = children(post);
        if (kids.isEmpty()) return NONE;
        int right = 0;
        for (int i = 0; i < kids.size(); i++) {
            if (liesBelow(c.home, kids.get(i))) {
                right = i;
            }
        }
        boolean wrong = p.worn != 0 && p.came % p.worn == 0;
        return kids.get(wrong ? (right + 1) % kids.size() : right);
    }

    private void comesHome(Cup c) {
        Post p = posts.get(c.home);
        p.handed += worthOf(c.coins);
        handed += worthOf(c.coins);
        c.coins = new int[6];
        c.where = 0;
        c.at = c.home;
        if (c.sale != 0) {
            p.done++;
            p.refused += c.sale == 3 ? 1 : 0;
            p.greatest = Math.max(p.greatest, now - c.sent);
            p.together += now - c.sent;
            c.sale = 0;
        }
    }

    private void clerkIsDone(Clerk k) {
        Cup c = cups.get(k.cup);
        k.cup = NONE;
        if (c.sale == 1) {
            int due = worthOf(c.coins) - c.price;
            for (int i = 0; i < 6; i++) {
                till[i] += c.coins[i];
            }
            int[] change = change(due);
            c.sale = change == null ? 3 : 2;
            c.coins = change == null ? c.coins : change;
            for (int i = 0; i < 6; i++) {
                till[i] -= c.coins[i];
            }
        }
        for (int child : children(0)) {
            if (liesBelow(c.home, child)) {
                waitDown(c, 0, child);
            }
        }
    }

    /** Of the least KINDS each amount by its fewest coins; then of the greatest KIND the most that still does it. */
    private int[] change(int amount) {
        int never = 1000000;
        int[][] fewest = new int[7][amount + 1];
        Arrays.fill(fewest[0], never);
        fewest[0][0] = 0;
        for (int k = 0; k < 6; k++) {
            for (int a = 0; a <= amount; a++) {
                fewest[k + 1][a] = never;
                for (int n = 0; n <= till[k] && n * WORTH[k] <= a; n++) {
                    fewest[k + 1][a] = Math.min(fewest[k + 1][a], n + fewest[k][a - n * WORTH[k]]);
                }
            }
        }
        if (fewest[6][amount] >= never) return null;
        int[] given = new int[6];
        int a = amount;
        for (int k = 5; k >= 0; k--) {
            for (int n = 0; n <= till[k] && n * WORTH[k] <= a; n++) {
                if (n + fewest[k][a - n * WORTH[k]] == fewest[k + 1][a]) {
                    given[k] = n;
                }
            }
            a -= given[k] * WORTH[k];
        }
        return given;
    }

    private int sentAt(int cup) {
        return cups.get(cup).sale == 0 ? 0 : cups.get(cup).sent;
    }

    private List<Integer> rowBy(int rule) {
        List<Integer> row = new ArrayList<>();
        for (int c = 0; c < cups.size(); c++) {
            if (cups.get(c).where == 3) {
                row.add(c);
            }
        }
        Comparator<Integer> stamp = Comparator.comparingInt(c -> cups.get(c).stamp);
        Comparator<Integer> home = Comparator.comparingInt(c -> cups.get(c).home);
        Comparator<Integer> sent = Comparator.comparingInt(this::sentAt);
        row.sort(rule == 0 ? stamp : rule == 1 ? sent : home.thenComparing(stamp));
        return row;
    }

    private void letOn(int w) {
        Post wire = posts.get(w);
        if (!wire.whole) return;
        Cup up = nextUp(w);
        Cup down = nextDown(w);
        boolean upMay = up != null && mayGoOn(w, true);
        boolean downMay = down != null && mayGoOn(w, false);
        if (upMay && downMay && !wire.both) {
            if (up.stamp <= down.stamp) {
                downMay = false;
            } else {
                upMay = false;
            }
        }
        if (upMay) {
            wire.lastUp = wire.sort == 1 ? up.from : 0;
            goOn(up, w, true);
        }
        if (downMay) {
            goOn(down, w, false);
        }
    }

    private void goOn(Cup c, int w, boolean up) {
        c.where = 2;
        c.at = w;
        c.up = up;
        c.place = 0;
        posts.get(w).went.add(new int[] {now, up ? 1 : 0});
    }

    private boolean mayGoOn(int w, boolean up) {
        Post wire = posts.get(w);
        for (Cup c : cups) {
            boolean there = c.where == 2 && c.at == w;
            if (there && c.up == up && c.place < wire.gap) return false;
            if (there && c.up != up && !wire.both) return false;
        }
        for (int[] went : wire.went) {
            if (now - went[0] < wire.gap && (!wire.both || went[1] == (up ? 1 : 0))) return false;
        }
        return true;
    }

    private Cup firstOf(List<Cup> waiting) {
        Cup first = null;
        for (Cup c : waiting) {
            first = first == null || c.stamp < first.stamp ? c : first;
        }
        return first;
    }

    private Cup nextUp(int w) {
        List<Cup> waiting = new ArrayList<>();
        for (Cup c : cups) {
            if (c.where == 1 && c.up && c.at == w) {
                waiting.add(c);
            }
        }
        Post p = posts.get(w);
        if (p.sort == 2 || p.latch == 0) return firstOf(waiting);
        List<Integer> turns = children(w);
        if (p.latch == 2 && p.lastUp != 0) {
            while (turns.get(turns.size() - 1) != p.lastUp) {
                turns.add(turns.remove(0));
            }
        }
        for (int child : turns) {
            List<Cup> from = new ArrayList<>(waiting);
            from.removeIf(c -> c.from != child);
            if (!from.isEmpty()) return firstOf(from);
        }
        return null;
    }

    private Cup nextDown(int w) {
        List<Cup> waiting = new ArrayList<>();
        for (Cup c : cups) {
            if (c.where == 1 && !c.up && c.child == w) {
                waiting.add(c);
            }
        }
        return firstOf(waiting);
    }

    int row(int i) {
        List<Integer> row = rowBy(orderRule);
        return in(i, 0, row.size() - 1) ? row.get(i) : NONE;
    }

    int clerkAt(int clerk, int what) {
        if (!in(clerk, 0, clerks.size() - 1)) return UNKNOWN;
        Clerk k = clerks.get(clerk);
        return what == 0 ? k.cup : what == 1 ? k.left : what == 2 ? k.needs : OUTSIDE;
    }

    int till(int kind) {
        return !in(kind, 0, 6) ? OUTSIDE : kind == 6 ? worthOf(till) : till[kind];
    }

    int could(int amount) {
        if (!in(amount, 0, 3000)) return OUTSIDE;
        int[] change = change(amount);
        return change == null ? NONE : Arrays.stream(change).sum();
    }

    int gives(int amount, int kind) {
        if (!in(amount, 0, 3000) || !in(kind, 0, 5)) return OUTSIDE;
        int[] change = change(amount);
        return change == null ? NONE : change[kind];
    }

    int on(int post, boolean up) {
        if (!isWire(post)) return UNKNOWN;
        return (int) cups.stream().filter(c -> c.where == 2 && c.at == post && c.up == up).count();
    }

    int waits(int counter, int what) {
        if (!isPost(counter)) return UNKNOWN;
        Post p = posts.get(counter);
        if (p.sort != 2) return STATE;
        return in(what, 0, 4) ? new int[] {p.done, p.refused, p.greatest, p.together, p.handed}[what] : OUTSIDE;
    }

    /** The WAITS, if CUPS are taken in the order told: the greatest, and all together. */
    private int[] waitsOf(List<Integer> taken) {
        int[] free = new int[clerks.size()];
        for (int k = 0; k < free.length; k++) {
            free[k] = clerks.get(k).cup == NONE ? 0 : clerks.get(k).left;
        }
        int[] waits = {0, 0};
        for (int c : taken) {
            int best = 0;
            for (int k = 1; k < free.length; k++) {
                best = free[k] < free[best] ? k : best;
            }
            free[best] += clerks.get(best).needs;
            int wait = now + free[best] - sentAt(c);
            waits[0] = Math.max(waits[0], wait);
            waits[1] += wait;
        }
        return waits;
    }

    private List<Integer> bestOrder;
    private int[] bestWaits;

    private void tryAll(List<Integer> taken, List<Integer> left) {
        if (left.isEmpty()) {
            int[] waits = waitsOf(taken);
            if (bestWaits == null || Arrays.compare(waits, bestWaits) < 0) {
                bestWaits = waits;
                bestOrder = new ArrayList<>(taken);
            }
        }
        for (int c : left) {
            List<Integer> more = new ArrayList<>(taken);
            List<Integer> less = new ArrayList<>(left);
            more.add(c);
            less.remove((Integer) c);
            tryAll(more, less);
        }
    }

    /** 0, or why there is no BEST ORDER. */
    private int plan() {
        List<Integer> row = rowBy(0);
        if (row.isEmpty() || clerks.isEmpty()) return NONE;
        if (row.size() > 6) return STATE;
        row.sort(null);
        bestWaits = null;
        tryAll(List.of(), row);
        return 0;
    }

    int worst() {
        int why = plan();
        return why != 0 ? why : bestWaits[0];
    }

    int best(int place) {
        int why = plan();
        return why != 0 ? why : in(place, 0, bestOrder.size() - 1) ? bestOrder.get(place) : NONE;
    }

    int worstBy(int rule) {
        if (!in(rule, 0, 2)) return OUTSIDE;
        int why = plan();
        return why != 0 ? why : waitsOf(rowBy(rule))[0];
    }

    int rush(int counter, int hour, int n) {
        if (!isPost(counter)) return UNKNOWN;
        if (posts.get(counter).sort != 2) return STATE;
        if (!in(hour, 0, 5) || !in(n, 0, 300)) return OUTSIDE;
        int was = posts.get(counter).rush[hour];
        posts.get(counter).rush[hour] = n;
        return was;
    }

    int load(int post, int hour) {
        if (!isWire(post)) return UNKNOWN;
        if (!in(hour, 0, 5)) return OUTSIDE;
        int sum = 0;
        for (int p = 1; p < posts.size(); p++) {
            sum += liesBelow(p, post) ? posts.get(p).rush[hour] : 0;
        }
        return sum;
    }

    int lines(int post) {
        if (!isWire(post)) return UNKNOWN;
        Post p = posts.get(post);
        boolean one = true;
        int most = 0;
        for (int h = 0; h < 6; h++) {
            one &= 2 * load(post, h) * p.length <= 720;
            most = Math.max(most, (int) Math.ceil(load(post, h) * p.gap / 720.0));
        }
        return one ? 1 : 2 * most;
    }

    int wanted() {
        int sum = 0;
        for (int p = 1; p < posts.size(); p++) {
            sum += lines(p) * posts.get(p).length;
        }
        return sum;
    }

    int vital(int hour) {
        if (!in(hour, 0, 5)) return OUTSIDE;
        int found = NONE;
        for (int p = posts.size() - 1; p > 0; p--) {
            if (loss(p, hour) > 0 && (found == NONE || loss(p, hour) >= loss(found, hour))) {
                found = p;
            }
        }
        return found;
    }

    int loss(int post, int hour) {
        int load = load(post, hour);
        return load < 0 ? load : 4 * load * posts.get(post).length;
    }

    int bells() {
        return rung.size();
    }

    int bell(int i, boolean tick) {
        return in(i, 0, rung.size() - 1) ? rung.get(i)[tick ? 1 : 0] : NONE;
    }

    int mayBe(int cup) {
        if (!isCup(cup)) return UNKNOWN;
        Cup c = cups.get(cup);
        if (c.sale == 0) return STATE;
        List<Integer> way = wayUp(c.home);
        boolean[] ticks = new boolean[now + 1];
        ticks[c.sent] = true;
        for (int i = 1; i < way.size(); i++) {
            Post to = posts.get(way.get(i));
            int length = posts.get(way.get(i - 1)).length;
            boolean[] next = new boolean[now + 1];
            boolean any = false;
            boolean reached = false;
            for (int t = length; t <= now; t++) {
                reached |= ticks[t - length];
                int tick = t;
                int joint = way.get(i);
                boolean free = to.sort == 0 || to.silent;
                next[t] = reached && (free || rung.stream().anyMatch(b -> b[0] == joint && b[1] == tick));
                any |= next[t];
            }
            if (!any) return i - 1;
            ticks = next;
        }
        return way.size() - 1;
    }

    int total(int what) {
        int inCups = cups.stream().mapToInt(c -> worthOf(c.coins)).sum();
        int out = (int) cups.stream().filter(c -> c.where != 0).count();
        int[] all = {posts.size(), cups.size(), now, out, clerks.size(), paid, handed, inCups + worthOf(till)};
        return in(what, 0, 7) ? all[what] : OUTSIDE;
    }
}
