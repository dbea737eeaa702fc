/**
 * A great shop whose counters send coins in cups along wires to one cage and wait for the change.
 * Words in capitals in the comments are those of the document.
 */
public final class FlyingChange {
    public static final int UNKNOWN = -1, OUTSIDE = -2, STATE = -3, FULL = -4, NONE = -9;

    private static final int MOST_POSTS = 16;
    private static final int MOST_CUPS = 24;
    private static final int MOST_CLERKS = 4;
    private static final int MOST_FETCHED = 20;
    private static final int MOST_BELLS = 300;
    private static final int MOST_PLANNED = 6;
    private static final int LAST_TICK = 20000;
    private static final int MOST_MONEY = 3000;

    private static final int KINDS = 6;
    private static final int THIRTY = 4;
    private static final int SIXTY = 5;
    private static final int[] WORTH = {1, 3, 6, 12, 30, 60};

    private static final int HOURS = 6;
    private static final int HOUR_TICKS = 720;
    private static final int PORTER_PACE = 3;

    /** Farther than any PLACE on a WIRE, and longer than any GAP. */
    private static final int FAR = 1000;
    /** Longer than any WAIT. */
    private static final int ENDLESS = 1000000;

    // The sort of a POST.
    private static final int CAGE = 0, JOINT = 1, COUNTER = 2;
    // WHERE a CUP is.
    private static final int AT_HOME = 0, WAITING = 1, ON_WIRE = 2, IN_ROW = 3, WITH_CLERK = 4, STRAY = 5,
        WITH_PORTER = 6;
    // A SALE.
    private static final int NO_SALE = 0, OPEN = 1, ANSWERED = 2, REFUSED = 3;
    // CATCHES; what is neither FIRST nor TURN is NEAR.
    private static final int FIRST_CATCH = 0, TURN_CATCH = 2;
    // ORDERS; BY_CUP is one of our own, by number alone.
    private static final int FIRST = 0, OLDEST = 1, NEAR = 2, BY_CUP = 3;

    private final Post[] posts = new Post[MOST_POSTS];
    private final Cup[] cups = new Cup[MOST_CUPS];
    private final Clerk[] clerks = new Clerk[MOST_CLERKS];
    private final Cup[] inLine = new Cup[MOST_CUPS];
    private final Coins lying = new Coins();
    private final Change change = new Change();
    private final Fetches fetches = new Fetches();
    private final Bells rung = new Bells();
    private final Plan plan = new Plan();
    private final Post cage = new Post(0, null, CAGE);
    private int postCount;
    private int cupCount;
    private int clerkCount;
    private int now;
    private int orderRule;
    private int paidIn;
    private int handedOut;

    public FlyingChange() {
        posts[0] = cage;
        postCount = 1;
    }

    // ---- the shop

    public int post(int under, boolean counter, int length, int gap, boolean both) {
        Post above = findPost(under);
        if (above == null) {
            return UNKNOWN;
        }
        if (!within(length, 1, 20) || !within(gap, 1, 10)) {
            return OUTSIDE;
        }
        if (above.sort == COUNTER) {
            return STATE;
        }
        if (postCount >= MOST_POSTS) {
            return FULL;
        }
        Post hung = new Post(postCount, above, counter ? COUNTER : JOINT);
        hung.length = length;
        hung.gap = gap;
        hung.both = both;
        posts[postCount] = hung;
        postCount++;
        return hung.number;
    }

    public int joint(int post, int what, int v) {
        Post p = findPost(post);
        if (p == null) {
            return UNKNOWN;
        }
        if (p.sort != JOINT) {
            return STATE;
        }
        if (!fitsJoint(what, v)) {
            return OUTSIDE;
        }
        int was;
        if (what == 0) {
            was = p.latch;
            p.latch = v;
        } else if (what == 1) {
            was = p.worn;
            p.wearBy(v);
        } else {
            was = p.silent ? 1 : 0;
            p.silent = v == 1;
        }
        return was;
    }

    private static boolean fitsJoint(int what, int v) {
        switch (what) {
            case 0:
                return within(v, FIRST_CATCH, TURN_CATCH);
            case 1:
                return v == 0 || within(v, 2, 9);
            case 2:
                return within(v, 0, 1);
            default:
                return false;
        }
    }

    public int about(int post, int what) {
        Post p = findPost(post);
        if (p == null) {
            return UNKNOWN;
        }
        if (!within(what, 0, 5)) {
            return OUTSIDE;
        }
        if (what == 1) {
            return p.sort;
        }
        if (p.above == null) {
            return NONE;
        }
        switch (what) {
            case 0:
                return p.above.number;
            case 2:
                return p.length;
            case 3:
                return p.gap;
            case 4:
                return p.both ? 1 : 0;
            default:
                return p.whole ? 1 : 0;
        }
    }

    public int cord(int post, boolean whole) {
        Post wire = findWire(post);
        if (wire == null) {
            return UNKNOWN;
        }
        int was = wire.whole ? 1 : 0;
        wire.whole = whole;
        return was;
    }

    public int cup(int counter) {
        Post home = findPost(counter);
        if (home == null) {
            return UNKNOWN;
        }
        if (home.sort != COUNTER) {
            return STATE;
        }
        if (cupCount >= MOST_CUPS) {
            return FULL;
        }
        Cup c = new Cup(cupCount, home);
        cups[cupCount] = c;
        cupCount++;
        return c.number;
    }

    public int clerk(int ticks) {
        if (!within(ticks, 1, 30)) {
            return OUTSIDE;
        }
        if (clerkCount >= MOST_CLERKS) {
            return FULL;
        }
        Clerk k = new Clerk(clerkCount, ticks);
        clerks[clerkCount] = k;
        clerkCount++;
        return k.number;
    }

    public int order(int rule) {
        if (!within(rule, FIRST, NEAR)) {
            return OUTSIDE;
        }
        int was = orderRule;
        orderRule = rule;
        return was;
    }

    public int drawer(int kind, int n) {
        if (!within(kind, 0, KINDS - 1) || !within(n, 0, 1000)) {
            return OUTSIDE;
        }
        int was = lying.count[kind];
        lying.count[kind] = n;
        return was;
    }

    public int fetch(int kind, int n, int ticks) {
        if (!within(kind, 0, KINDS - 1) || !within(n, 1, 100) || !within(ticks, 1, 200)) {
            return OUTSIDE;
        }
        if (fetches.size >= MOST_FETCHED) {
            return FULL;
        }
        fetches.add(kind, n, now + ticks);
        return now + ticks;
    }

    // ---- cups

    public int send(int cup, int price, int kind, int n) {
        Cup c = findCup(cup);
        if (c == null) {
            return UNKNOWN;
        }
        if (!within(price, 1, MOST_MONEY) || !within(kind, 0, KINDS - 1) || !within(n, 1, 50)) {
            return OUTSIDE;
        }
        int paid = n * WORTH[kind];
        if (c.where != AT_HOME || paid < price) {
            return STATE;
        }
        c.coins.count[kind] = n;
        c.sale = OPEN;
        c.price = price;
        c.sent = now;
        paidIn += paid;
        c.waitToGoUp(c.home, now);
        return paid - price;
    }

    public int resend(int cup) {
        Cup c = findCup(cup);
        if (c == null) {
            return UNKNOWN;
        }
        if (c.where != STRAY || c.at == null) {
            return STATE;
        }
        c.waitToGoUp(c.at, now);
        return c.at.number;
    }

    public int porter(int cup) {
        Cup c = findCup(cup);
        if (c == null) {
            return UNKNOWN;
        }
        if (!porterMayTake(c)) {
            return STATE;
        }
        c.due = now + Math.max(1, PORTER_PACE * way(c.at, c.home));
        c.leaveFor(WITH_PORTER);
        return c.due;
    }

    private static boolean porterMayTake(Cup c) {
        if (c.at == null) {
            return false;
        }
        switch (c.where) {
            case ON_WIRE:
                return !c.at.whole;
            case STRAY:
                return true;
            case WAITING:
                return !c.goesUp && c.toward == null;
            default:
                return false;
        }
    }

    /** The LENGTHS between two POSTS; of two different ones the later can't be above the other. */
    private static int way(Post from, Post to) {
        int sum = 0;
        Post a = from;
        Post b = to;
        while (a != null && b != null && a != b) {
            if (a.number > b.number) {
                sum += a.length;
                a = a.above;
            } else {
                sum += b.length;
                b = b.above;
            }
        }
        return sum;
    }

    public int cupAt(int cup, int what) {
        Cup c = findCup(cup);
        if (c == null) {
            return UNKNOWN;
        }
        switch (what) {
            case 0:
                return c.where;
            case 1:
                return c.holder();
            case 2:
                return c.measure();
            case 3:
                return c.where != WAITING && c.where != ON_WIRE ? NONE : c.goesUp ? 1 : 0;
            case 4:
                return c.toward == null ? NONE : c.toward.number;
            case 5:
                return c.home.number;
            case 6:
                return c.sale;
            case 7:
                return c.sale == NO_SALE ? NONE : c.price;
            case 8:
                return c.sale == NO_SALE ? NONE : c.sent;
            default:
                return OUTSIDE;
        }
    }

    public int coins(int cup, int kind) {
        Cup c = findCup(cup);
        if (c == null) {
            return UNKNOWN;
        }
        return c.coins.told(kind);
    }

    // ---- time

    public int tick(int n) {
        if (!within(n, 1, 200)) {
            return OUTSIDE;
        }
        if (now + n > LAST_TICK) {
            return FULL;
        }
        for (int i = 0; i < n; i++) {
            now++;
            moveCups();
            porterCups();
            workClerks();
            fetches.bring(now, lying);
            takeFromRow();
            letOnWires();
        }
        return now;
    }

    private void moveCups() {
        for (int i = 0; i < cupCount; i++) {
            Cup c = cups[i];
            if (c.where == ON_WIRE && c.at != null && c.at.whole) {
                c.place++;
                if (c.place >= c.at.length) {
                    endWire(c, c.at);
                }
            }
        }
    }

    private void endWire(Cup c, Post wire) {
        if (!c.goesUp) {
            comeDown(c, wire);
        } else if (wire.above != null) {
            comeUp(c, wire);
        }
    }

    private void comeUp(Cup c, Post wire) {
        if (wire.above.sort == CAGE) {
            c.leaveFor(IN_ROW);
            c.stamp = now;
            return;
        }
        c.waitToGoUp(wire.above, now);
        c.from = wire;
        ringAt(wire.above);
    }

    private void comeDown(Cup c, Post end) {
        if (end.sort == JOINT) {
            c.waitToGoDown(end, thrownTo(c, end), now);
            ringAt(end);
        } else if (end == c.home) {
            comeHome(c);
        } else {
            c.leaveFor(STRAY);
            c.at = end;
        }
    }

    private void ringAt(Post joint) {
        if (!joint.silent) {
            rung.ring(joint.number, now);
        }
    }

    /** The CHILD to which the CATCH of a JOINT throws a CUP that comes down to it. */
    private Post thrownTo(Cup c, Post joint) {
        // It is counted at a JOINT without CHILDREN too: the CUP has come down all the same.
        boolean wrongWay = joint.wearsThrough();
        Post right = rightChild(c.home, joint);
        if (right == null) {
            right = childBehind(joint, 0);
        }
        return wrongWay && right != null ? childBehind(joint, right.number) : right;
    }

    /** The CHILD of a POST BELOW which a HOME lies; null: there is none. */
    private static Post rightChild(Post home, Post above) {
        for (Post p = home; p != null; p = p.above) {
            if (p.above == above) {
                return p;
            }
        }
        return null;
    }

    /** The least CHILD with a number above the one told, else the least of all; null: there are none. */
    private Post childBehind(Post above, int number) {
        Post least = null;
        for (int i = 1; i < postCount; i++) {
            Post p = posts[i];
            if (p.above == above) {
                if (p.number > number) {
                    return p;
                }
                if (least == null) {
                    least = p;
                }
            }
        }
        return least;
    }

    private void comeHome(Cup c) {
        int worth = c.coins.worth();
        handedOut += worth;
        c.home.tally.handOut(worth);
        c.coins.empty();
        if (c.sale != NO_SALE) {
            c.home.tally.finish(now - c.sent, c.sale == REFUSED);
        }
        c.sale = NO_SALE;
        c.leaveFor(AT_HOME);
        c.at = c.home;
    }

    private void porterCups() {
        for (int i = 0; i < cupCount; i++) {
            Cup c = cups[i];
            if (c.where == WITH_PORTER && c.due == now) {
                comeHome(c);
            }
        }
    }

    private void workClerks() {
        for (int i = 0; i < clerkCount; i++) {
            Clerk k = clerks[i];
            if (k.cup != null) {
                k.left--;
                if (k.left == 0) {
                    finish(k, k.cup);
                }
            }
        }
    }

    private void finish(Clerk k, Cup c) {
        k.cup = null;
        if (c.sale == OPEN) {
            settle(c);
        }
        c.waitToGoDown(cage, rightChild(c.home, cage), now);
    }

    private void settle(Cup c) {
        int due = c.coins.worth() - c.price;
        lying.put(c.coins.count);
        if (change.find(lying.count, due) == NONE) {
            lying.take(c.coins.count);
            c.sale = REFUSED;
            return;
        }
        lying.take(change.best);
        c.coins.empty();
        c.coins.put(change.best);
        c.sale = ANSWERED;
    }

    private void takeFromRow() {
        for (int i = 0; i < clerkCount; i++) {
            Clerk k = clerks[i];
            if (k.cup == null) {
                Cup c = nextOfRow();
                if (c == null) {
                    return;
                }
                c.leaveFor(WITH_CLERK);
                c.clerk = k;
                k.cup = c;
                k.left = k.needs;
            }
        }
    }

    private Cup nextOfRow() {
        Cup next = null;
        for (int i = 0; i < cupCount; i++) {
            Cup c = cups[i];
            if (c.where == IN_ROW && (next == null || c.isAhead(next, orderRule))) {
                next = c;
            }
        }
        return next;
    }

    private void letOnWires() {
        for (int i = 1; i < postCount; i++) {
            posts[i].up.clear();
            posts[i].down.clear();
        }
        for (int i = 0; i < cupCount; i++) {
            noteOnWires(cups[i]);
        }
        for (int i = 1; i < postCount; i++) {
            if (posts[i].whole) {
                letOn(posts[i]);
            }
        }
    }

    /** Tells each WIRE what is on it and which of those WAITING for it would be first. */
    private static void noteOnWires(Cup c) {
        Post p = c.at;
        if (p == null) {
            return;
        }
        if (c.where == ON_WIRE) {
            (c.goesUp ? p.up : p.down).carry(c.place);
        } else if (c.where == WAITING && c.goesUp) {
            p.up.offer(c, p.rank(c.from));
        } else if (c.where == WAITING && c.toward != null) {
            c.toward.down.offer(c, 0);
        }
    }

    private void letOn(Post wire) {
        Cup up = wire.up.first;
        Cup down = wire.down.first;
        boolean upMay = up != null && isFree(wire, wire.up, wire.down);
        boolean downMay = down != null && isFree(wire, wire.down, wire.up);
        if (upMay && downMay && !wire.both) {
            upMay = up.stamp <= down.stamp;
            downMay = !upMay;
        }
        if (upMay) {
            wire.turn = up.from == null ? wire.turn : up.from.number;
            wire.up.last = now;
            up.goOn(wire, true);
        }
        if (downMay) {
            wire.down.last = now;
            down.goOn(wire, false);
        }
    }

    private boolean isFree(Post wire, Way way, Way other) {
        if (way.nearest < wire.gap || now - way.last < wire.gap) {
            return false;
        }
        return wire.both || other.carried == 0 && now - other.last >= wire.gap;
    }

    public int row(int i) {
        int size = lineUp(orderRule);
        return i < 0 || i >= size ? NONE : inLine[i].number;
    }

    /** Puts those in THE ROW into the line, by an ORDER: how many they are. */
    private int lineUp(int by) {
        int size = 0;
        for (int i = 0; i < cupCount; i++) {
            Cup c = cups[i];
            if (c.where == IN_ROW) {
                int at = size;
                while (at > 0 && c.isAhead(inLine[at - 1], by)) {
                    inLine[at] = inLine[at - 1];
                    at--;
                }
                inLine[at] = c;
                size++;
            }
        }
        return size;
    }

    public int clerkAt(int clerk, int what) {
        if (clerk < 0 || clerk >= clerkCount) {
            return UNKNOWN;
        }
        Clerk k = clerks[clerk];
        switch (what) {
            case 0:
                return k.cup == null ? NONE : k.cup.number;
            case 1:
                return k.left;
            case 2:
                return k.needs;
            default:
                return OUTSIDE;
        }
    }

    public int till(int kind) {
        return lying.told(kind);
    }

    public int could(int amount) {
        return within(amount, 0, MOST_MONEY) ? change.find(lying.count, amount) : OUTSIDE;
    }

    public int gives(int amount, int kind) {
        if (!within(amount, 0, MOST_MONEY) || !within(kind, 0, KINDS - 1)) {
            return OUTSIDE;
        }
        return change.find(lying.count, amount) == NONE ? NONE : change.best[kind];
    }

    public int on(int post, boolean up) {
        Post wire = findWire(post);
        if (wire == null) {
            return UNKNOWN;
        }
        int sum = 0;
        for (int i = 0; i < cupCount; i++) {
            Cup c = cups[i];
            if (c.where == ON_WIRE && c.at == wire && c.goesUp == up) {
                sum++;
            }
        }
        return sum;
    }

    // ---- waits, orders

    public int waits(int counter, int what) {
        Post p = findPost(counter);
        if (p == null) {
            return UNKNOWN;
        }
        if (p.sort != COUNTER) {
            return STATE;
        }
        switch (what) {
            case 0:
                return p.tally.done;
            case 1:
                return p.tally.refused;
            case 2:
                return p.tally.greatest;
            case 3:
                return p.tally.together;
            case 4:
                return p.tally.handed;
            default:
                return OUTSIDE;
        }
    }

    public int worst() {
        int size = lineUp(BY_CUP);
        int refusal = planRefusal(size);
        if (refusal != 0) {
            return refusal;
        }
        layPlan(size);
        return plan.findBest();
    }

    public int best(int place) {
        int size = lineUp(BY_CUP);
        int refusal = planRefusal(size);
        if (refusal != 0) {
            return refusal;
        }
        if (place < 0 || place >= size) {
            return NONE;
        }
        layPlan(size);
        plan.findBest();
        return inLine[plan.cupAtPlace(place)].number;
    }

    public int worstBy(int rule) {
        if (!within(rule, FIRST, NEAR)) {
            return OUTSIDE;
        }
        int size = lineUp(rule);
        int refusal = planRefusal(size);
        if (refusal != 0) {
            return refusal;
        }
        layPlan(size);
        return plan.greatestInTurn();
    }

    /** Why those in the line can't be planned for; 0: they can. */
    private int planRefusal(int size) {
        if (size == 0 || clerkCount == 0) {
            return NONE;
        }
        return size > MOST_PLANNED ? STATE : 0;
    }

    private void layPlan(int size) {
        plan.begin();
        for (int i = 0; i < clerkCount; i++) {
            plan.addClerk(clerks[i].left, clerks[i].needs);
        }
        for (int i = 0; i < size; i++) {
            plan.addCup(now - inLine[i].sentTick());
        }
        plan.layPlaces();
    }

    // ---- rush, loss

    public int rush(int counter, int hour, int n) {
        Post p = findPost(counter);
        if (p == null) {
            return UNKNOWN;
        }
        if (p.sort != COUNTER) {
            return STATE;
        }
        if (!within(hour, 0, HOURS - 1) || !within(n, 0, 300)) {
            return OUTSIDE;
        }
        int was = p.load[hour];
        for (Post wire = p; wire != null; wire = wire.above) {
            wire.load[hour] += n - was;
        }
        return was;
    }

    public int load(int post, int hour) {
        Post wire = findWire(post);
        if (wire == null) {
            return UNKNOWN;
        }
        return within(hour, 0, HOURS - 1) ? wire.load[hour] : OUTSIDE;
    }

    public int lines(int post) {
        Post wire = findWire(post);
        return wire == null ? UNKNOWN : wire.wantedLines();
    }

    public int wanted() {
        int sum = 0;
        for (int i = 1; i < postCount; i++) {
            sum += posts[i].wantedLines() * posts[i].length;
        }
        return sum;
    }

    public int vital(int hour) {
        if (!within(hour, 0, HOURS - 1)) {
            return OUTSIDE;
        }
        int greatest = 0;
        int found = NONE;
        for (int i = 1; i < postCount; i++) {
            int lost = posts[i].lossIn(hour);
            if (lost > greatest) {
                greatest = lost;
                found = i;
            }
        }
        return found;
    }

    public int loss(int post, int hour) {
        Post wire = findWire(post);
        if (wire == null) {
            return UNKNOWN;
        }
        return within(hour, 0, HOURS - 1) ? wire.lossIn(hour) : OUTSIDE;
    }

    // ---- bells

    public int bells() {
        return rung.size;
    }

    public int bell(int i, boolean tick) {
        if (i < 0 || i >= rung.size) {
            return NONE;
        }
        return tick ? rung.tickOf(i) : rung.jointOf(i);
    }

    public int mayBe(int cup) {
        Cup c = findCup(cup);
        if (c == null) {
            return UNKNOWN;
        }
        if (c.sale == NO_SALE) {
            return STATE;
        }
        int i = 0;
        int earliest = c.sent;
        // To be at each POST as early as can be leaves the most for those behind it.
        for (Post wire = c.home; wire.above != null; wire = wire.above) {
            earliest += wire.length;
            if (wire.above.sort == JOINT && !wire.above.silent) {
                earliest = rung.firstFrom(wire.above.number, earliest);
            }
            if (earliest == NONE || earliest > now) {
                return i;
            }
            i++;
        }
        return i;
    }

    public int total(int what) {
        switch (what) {
            case 0:
                return postCount;
            case 1:
                return cupCount;
            case 2:
                return now;
            case 3:
                return cupsOut();
            case 4:
                return clerkCount;
            case 5:
                return paidIn;
            case 6:
                return handedOut;
            case 7:
                return lying.worth() + cupsWorth();
            default:
                return OUTSIDE;
        }
    }

    private int cupsOut() {
        int sum = 0;
        for (int i = 0; i < cupCount; i++) {
            if (cups[i].where != AT_HOME) {
                sum++;
            }
        }
        return sum;
    }

    private int cupsWorth() {
        int sum = 0;
        for (int i = 0; i < cupCount; i++) {
            sum += cups[i].coins.worth();
        }
        return sum;
    }

    // ---- what is asked everywhere

    private static boolean within(int v, int least, int most) {
        return v >= least && v <= most;
    }

    private Post findPost(int number) {
        return number < 0 || number >= postCount ? null : posts[number];
    }

    /** THE CAGE hangs by no WIRE. */
    private Post findWire(int number) {
        return number < 1 || number >= postCount ? null : posts[number];
    }

    private Cup findCup(int number) {
        return number < 0 || number >= cupCount ? null : cups[number];
    }

    /** Coins of each KIND. */
    private static final class Coins {
        final int[] count = new int[KINDS];

        int worth() {
            int sum = 0;
            for (int k = 0; k < KINDS; k++) {
                sum += count[k] * WORTH[k];
            }
            return sum;
        }

        /** How many of a KIND, or, of the KIND behind the last, what all are worth. */
        int told(int kind) {
            if (kind == KINDS) {
                return worth();
            }
            return kind < 0 || kind > KINDS ? OUTSIDE : count[kind];
        }

        void put(int[] more) {
            for (int k = 0; k < KINDS; k++) {
                count[k] += more[k];
            }
        }

        void take(int[] less) {
            for (int k = 0; k < KINDS; k++) {
                count[k] -= less[k];
            }
        }

        void empty() {
            for (int k = 0; k < KINDS; k++) {
                count[k] = 0;
            }
        }
    }

    /** The fewest coins, of those that lie somewhere, by which an amount is given. */
    private static final class Change {
        /** How many of each KIND; of worth only if the latest find() did not answer NONE. */
        final int[] best = new int[KINDS];
        private final int[] tried = new int[KINDS];

        /**
         * How many coins; NONE: it can't be given. One less than fits of the 60s, and then of the 30s, may
         * be fewest, two less never: among the lesser coins some are then worth just a 60 that is left, or
         * just two 30s that are left, and these are fewer.
         */
        int find(int[] lying, int amount) {
            int fewest = NONE;
            int sixties = Math.min(lying[SIXTY], amount / WORTH[SIXTY]);
            for (int s = sixties; s >= 0 && s >= sixties - 1; s--) {
                int left = amount - s * WORTH[SIXTY];
                int thirties = Math.min(lying[THIRTY], left / WORTH[THIRTY]);
                for (int t = thirties; t >= 0 && t >= thirties - 1; t--) {
                    int n = fill(lying, s, t, left - t * WORTH[THIRTY]);
                    if (n != NONE && (fewest == NONE || n < fewest)) {
                        fewest = n;
                        System.arraycopy(tried, 0, best, 0, KINDS);
                    }
                }
            }
            return fewest;
        }

        /** The other KINDS are each worth a number of the one below, so that the greatest first is fewest. */
        private int fill(int[] lying, int sixties, int thirties, int amount) {
            tried[SIXTY] = sixties;
            tried[THIRTY] = thirties;
            int n = sixties + thirties;
            int left = amount;
            for (int k = THIRTY - 1; k >= 0; k--) {
                tried[k] = Math.min(lying[k], left / WORTH[k]);
                left -= tried[k] * WORTH[k];
                n += tried[k];
            }
            return left == 0 ? n : NONE;
        }
    }

    /** Coins that are FETCHED and not there yet. */
    private static final class Fetches {
        private final int[] kinds = new int[MOST_FETCHED];
        private final int[] counts = new int[MOST_FETCHED];
        private final int[] dues = new int[MOST_FETCHED];
        int size;

        void add(int kind, int n, int due) {
            if (size < MOST_FETCHED) {
                kinds[size] = kind;
                counts[size] = n;
                dues[size] = due;
                size++;
            }
        }

        /** Puts those that are there at a TICK to the coins told, and keeps the others. */
        void bring(int now, Coins to) {
            int kept = 0;
            for (int i = 0; i < size; i++) {
                if (dues[i] == now) {
                    to.count[kinds[i]] += counts[i];
                } else {
                    kinds[kept] = kinds[i];
                    counts[kept] = counts[i];
                    dues[kept] = dues[i];
                    kept++;
                }
            }
            size = kept;
        }
    }

    /** The latest BELLS, in a ring; the oldest is the 0-th. */
    private static final class Bells {
        private final int[] joints = new int[MOST_BELLS];
        private final int[] ticks = new int[MOST_BELLS];
        private int oldest;
        int size;

        void ring(int joint, int tick) {
            int at = (oldest + size) % MOST_BELLS;
            joints[at] = joint;
            ticks[at] = tick;
            if (size < MOST_BELLS) {
                size++;
            } else {
                oldest = (oldest + 1) % MOST_BELLS;
            }
        }

        int jointOf(int i) {
            return joints[(oldest + i) % MOST_BELLS];
        }

        int tickOf(int i) {
            return ticks[(oldest + i) % MOST_BELLS];
        }

        /** The first TICK from the one told on, at which a JOINT rang; NONE: it did not. */
        int firstFrom(int joint, int tick) {
            for (int i = 0; i < size; i++) {
                if (jointOf(i) == joint && tickOf(i) >= tick) {
                    return tickOf(i);
                }
            }
            return NONE;
        }
    }

    /** What a COUNTER has had of SALES that are done with. */
    private static final class Tally {
        int done;
        int refused;
        int greatest = NONE;
        int together;
        int handed;

        void finish(int wait, boolean wasRefused) {
            done++;
            refused += wasRefused ? 1 : 0;
            greatest = Math.max(greatest, wait);
            together += wait;
        }

        void handOut(int worth) {
            handed += worth;
        }
    }

    /** One direction of a WIRE. */
    private static final class Way {
        /** The TICK at which a CUP went on last. */
        int last = -FAR;
        /** How many CUPS are on it, and the least PLACE of these. */
        int carried;
        int nearest;
        /** Of the CUPS that wait for it, the one that is before all others. */
        Cup first;
        private int firstRank;

        void clear() {
            carried = 0;
            nearest = FAR;
            first = null;
            firstRank = 0;
        }

        void carry(int place) {
            carried++;
            nearest = Math.min(nearest, place);
        }

        /** CUPS are to be offered by number, so that the least stays of those that are like. */
        void offer(Cup c, int rank) {
            if (first == null || rank < firstRank || rank == firstRank && c.stamp < first.stamp) {
                first = c;
                firstRank = rank;
            }
        }
    }

    /** A POST, and the WIRE by which it hangs. */
    private static final class Post {
        final int number;
        final Post above;
        final int sort;
        int length;
        int gap;
        boolean both;
        boolean whole = true;
        final Way up = new Way();
        final Way down = new Way();
        /** The CATCH of a JOINT, and the CHILD from which a CUP went UP last (0: none did). */
        int latch = FIRST_CATCH;
        int turn;
        int worn;
        /** How many CUPS came down since one was thrown the wrong way. */
        private int fallen;
        boolean silent;
        /** THE LOAD of the WIRE in each hour. */
        final int[] load = new int[HOURS];
        final Tally tally = new Tally();

        Post(int number, Post above, int sort) {
            this.number = number;
            this.above = above;
            this.sort = sort;
        }

        void wearBy(int w) {
            worn = w;
            fallen = 0;
        }

        /** Counts a CUP that comes down: whether it is one of those that go the wrong way. */
        boolean wearsThrough() {
            if (worn == 0) {
                return false;
            }
            fallen++;
            if (fallen < worn) {
                return false;
            }
            fallen = 0;
            return true;
        }

        /** Which of those that wait to go UP from here come first, told by the CHILD they came from. */
        int rank(Post from) {
            if (from == null || latch == FIRST_CATCH) {
                return 0;
            }
            return latch == TURN_CATCH && from.number <= turn ? from.number + MOST_POSTS : from.number;
        }

        int wantedLines() {
            int most = 0;
            for (int h = 0; h < HOURS; h++) {
                most = Math.max(most, load[h]);
            }
            if (2 * most * length <= HOUR_TICKS) {
                return 1;
            }
            return 2 * ((most * gap + HOUR_TICKS - 1) / HOUR_TICKS);
        }

        int lossIn(int hour) {
            return 4 * load[hour] * length;
        }
    }

    private static final class Clerk {
        final int number;
        final int needs;
        Cup cup;
        int left;

        Clerk(int number, int needs) {
            this.number = number;
            this.needs = needs;
        }
    }

    private static final class Cup {
        final int number;
        final Post home;
        final Coins coins = new Coins();
        int where = AT_HOME;
        /** Where it is HOME, WAITING or STRAY, or what hangs by the WIRE on which it is; else null. */
        Post at;
        boolean goesUp;
        /** WAITING at a JOINT to go UP: the CHILD from which it came. */
        Post from;
        /** WAITING to go down: the CHILD to which; null: for none. */
        Post toward;
        Clerk clerk;
        int place;
        int stamp;
        /** The TICK at which a PORTER is there. */
        int due;
        int sale = NO_SALE;
        int price;
        int sent;

        Cup(int number, Post home) {
            this.number = number;
            this.home = home;
            at = home;
        }

        /** Forgets what belonged to the place where it was. */
        void leaveFor(int nextWhere) {
            where = nextWhere;
            at = null;
            from = null;
            toward = null;
            clerk = null;
        }

        void waitToGoUp(Post post, int tick) {
            leaveFor(WAITING);
            at = post;
            goesUp = true;
            stamp = tick;
        }

        void waitToGoDown(Post post, Post child, int tick) {
            leaveFor(WAITING);
            at = post;
            goesUp = false;
            toward = child;
            stamp = tick;
        }

        void goOn(Post wire, boolean up) {
            leaveFor(ON_WIRE);
            at = wire;
            goesUp = up;
            place = 0;
        }

        int sentTick() {
            return sale == NO_SALE ? 0 : sent;
        }

        /** The POST, WIRE or CLERK where it is. */
        int holder() {
            if (clerk != null) {
                return clerk.number;
            }
            return at == null ? NONE : at.number;
        }

        /** What is counted where it is. */
        int measure() {
            switch (where) {
                case WAITING:
                case IN_ROW:
                    return stamp;
                case ON_WIRE:
                    return place;
                case WITH_CLERK:
                    return clerk == null ? NONE : clerk.left;
                case WITH_PORTER:
                    return due;
                default:
                    return NONE;
            }
        }

        boolean isAhead(Cup other, int order) {
            int before;
            switch (order) {
                case FIRST:
                    before = Integer.compare(stamp, other.stamp);
                    break;
                case OLDEST:
                    before = Integer.compare(sentTick(), other.sentTick());
                    break;
                case NEAR:
                    before = Integer.compare(home.number, other.home.number);
                    before = before == 0 ? Integer.compare(stamp, other.stamp) : before;
                    break;
                default:
                    before = 0;
                    break;
            }
            return before == 0 ? number < other.number : before < 0;
        }
    }

    /** How CLERKS would take the CUPS of THE ROW, if no other came. */
    private static final class Plan {
        private final int[] free = new int[MOST_CLERKS];
        private final int[] needs = new int[MOST_CLERKS];
        private int clerkCount;
        /** How long each CUP has waited, told by the line that was laid in. */
        private final int[] waited = new int[MOST_PLANNED];
        private int size;
        /** In how many ticks that which is taken at a place is done. */
        private final int[] done = new int[MOST_PLANNED];
        /** Of those in the line; none is, but while they are gone through. */
        private final boolean[] taken = new boolean[MOST_PLANNED];
        private final int[] tried = new int[MOST_PLANNED];
        private final int[] best = new int[MOST_PLANNED];
        private int least;

        void begin() {
            clerkCount = 0;
            size = 0;
        }

        void addClerk(int left, int ticks) {
            if (clerkCount < MOST_CLERKS) {
                free[clerkCount] = left;
                needs[clerkCount] = ticks;
                clerkCount++;
            }
        }

        void addCup(int soFar) {
            if (size < MOST_PLANNED) {
                waited[size] = soFar;
                size++;
            }
        }

        /** A CLERK needs the same ticks for each CUP, so what is done when is the same in every order. */
        void layPlaces() {
            for (int place = 0; place < size; place++) {
                int next = 0;
                for (int k = 1; k < clerkCount; k++) {
                    if (free[k] < free[next]) {
                        next = k;
                    }
                }
                free[next] += needs[next];
                done[place] = free[next];
            }
        }

        /** The greatest WAIT, if they are taken as they stand in the line. */
        int greatestInTurn() {
            int greatest = 0;
            for (int i = 0; i < size; i++) {
                greatest = Math.max(greatest, waited[i] + done[i]);
            }
            return greatest;
        }

        /** The greatest WAIT of THE BEST ORDER; of that the line is to be by CUPS. */
        int findBest() {
            least = ENDLESS;
            search(this, 0, 0);
            return least;
        }

        int cupAtPlace(int place) {
            return place < 0 || place >= size ? 0 : best[place];
        }

        /**
         * Goes through all orders by CUPS and keeps the first of the least greatest WAIT. All WAITS
         * together are what they waited so far and what is done when: no order has less of these.
         */
        private static void search(Plan p, int place, int greatest) {
            if (greatest >= p.least) {
                return;
            }
            if (place >= p.size) {
                p.least = greatest;
                System.arraycopy(p.tried, 0, p.best, 0, p.size);
                return;
            }
            for (int i = 0; i < p.size; i++) {
                if (!p.taken[i]) {
                    p.taken[i] = true;
                    p.tried[place] = i;
                    search(p, place + 1, Math.max(greatest, p.waited[i] + p.done[place]));
                    p.taken[i] = false;
                }
            }
        }
    }
}
