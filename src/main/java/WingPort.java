/**
 * A port stepped tick by tick: planes come, land, are served at stands and go, and every late tick
 * has one cause. The face answers as ../shared/DOC.md promises; refusals change nothing.
 */
public final class WingPort {
    public static final int NONE = -1, BAD = -2, STATE = -3, FULL = -4;
    public static final long NO = -4611686018427387904L;

    private static final int NOTHING_THERE = -11, OUTSIDE = -12, UNLIKE = -13, SIZE_BELOW_ZERO = -14;

    private static final int LAST_TICK = 9999;
    private static final int LONGEST_RUN = 200;
    private static final int LONGEST_PLAN = 40;
    private static final int MOST_PLANNED = 2;
    private static final int MOST_CREW = 999;
    private static final int MOST_LATE = 999;
    private static final int MOST_BAGS = 99;
    private static final int MOST_CART = 99;
    private static final int BIGGEST_STAND = 3;
    private static final int SHEETS = 4;
    private static final int MOST_BY_SHEET = 10;
    private static final int NUMBERS_A_VISIT = 4;

    private final Port port;
    /** The port that is played on for what is ahead: its rows are used again by every such call. */
    private final Port aside;
    private final Texts texts;
    private final Plan kept;
    private final Estimates estimates;
    private final Sheet[] sheets;

    public WingPort() {
        texts = new Texts();
        port = new Port(texts.rule());
        aside = new Port(texts.rule());
        kept = new Plan();
        estimates = new Estimates();
        sheets = new Sheet[SHEETS];
        for (int s = 0; s < SHEETS; s++) {
            sheets[s] = new Sheet();
        }
    }

    // ---- the port

    public int stand(int size) {
        if (size < 1 || size > BIGGEST_STAND) {
            return BAD;
        }
        return port.addStand(size);
    }

    public int set(int what, int v) {
        if (!Port.maySet(what, v)) {
            return BAD;
        }
        if (what < Planes.SORTS && v < port.busy[what]) {
            return STATE;
        }
        int was = port.settings[what];
        port.settings[what] = v;
        return was;
    }

    public int visit(int kind, int eta, int etd, int crew) {
        boolean told = Planes.isKind(kind) && eta >= port.tick && eta <= LAST_TICK
            && etd > eta && etd <= LAST_TICK && crew >= 1 && crew <= MOST_CREW;
        if (!told) {
            return BAD;
        }
        return port.addVisit(kind, eta, etd, crew);
    }

    public int late(int v, int ticks) {
        if (!port.hasVisit(v)) {
            return NONE;
        }
        if (ticks < 0 || ticks > MOST_LATE) {
            return BAD;
        }
        Visit x = port.visits[v];
        if (x.state != Visit.DUE) {
            return STATE;
        }
        int was = x.late;
        x.late = ticks;
        return was;
    }

    public int wish(int v, int s) {
        if (!port.hasVisit(v) || s != -1 && !port.hasStand(s)) {
            return NONE;
        }
        if (!port.fits(v, s)) {
            return BAD;
        }
        Visit x = port.visits[v];
        if (!x.isAhead()) {
            return STATE;
        }
        int was = x.wish;
        x.wish = s;
        return was < 0 ? Port.MOST_STANDS : was;
    }

    public int feed(int from, int to, int bags, int cart) {
        if (!port.hasVisit(from) || !port.hasVisit(to)) {
            return NONE;
        }
        if (from == to || bags < 1 || bags > MOST_BAGS || cart < 1 || cart > MOST_CART) {
            return BAD;
        }
        if (port.visits[from].state != Visit.DUE || port.visits[to].state != Visit.DUE) {
            return STATE;
        }
        return port.addFeed(from, to, bags, cart);
    }

    public int run(int n) {
        int refusal = refusedAhead(n, LONGEST_RUN);
        if (refusal != 0) {
            return refusal;
        }
        for (int k = 0; k < n; k++) {
            port.step();
        }
        return port.tick;
    }

    public int visitTold(int v, int what) {
        if (!port.hasVisit(v)) {
            return NONE;
        }
        return port.visits[v].told(what);
    }

    public int cause(int v, int c) {
        if (!port.hasVisit(v)) {
            return NONE;
        }
        if (c < 0 || c >= Visit.CAUSES) {
            return BAD;
        }
        return port.visits[v].causes[c];
    }

    public int feedTold(int f, int what) {
        if (!port.hasFeed(f)) {
            return NONE;
        }
        return port.feeds[f].told(what);
    }

    public int standTold(int s, int what) {
        if (!port.hasStand(s)) {
            return STATE;
        }
        if (what == 0) {
            return port.standSizes[s];
        }
        return what == 1 ? port.holders[s] : BAD;
    }

    public int runwayTold(int r, int what) {
        if (r < 0 || r >= Port.MOST_RUNWAYS) {
            return STATE;
        }
        if (what == 0) {
            return port.ends[r];
        }
        return what == 1 ? port.prevs[r] : BAD;
    }

    public int ticks(int kind, int act) {
        if (!Planes.isKind(kind) || act < 0 || act >= Planes.ACTS) {
            return BAD;
        }
        return Planes.lasts(kind, act);
    }

    public int kindTold(int kind, int what) {
        if (!Planes.isKind(kind)) {
            return BAD;
        }
        if (what == 0) {
            return Planes.size(kind);
        }
        return what == 1 ? Planes.roll(kind) : BAD;
    }

    public int trucks(int sort, int what) {
        if (sort < 0 || sort >= Planes.SORTS) {
            return STATE;
        }
        if (what == 0) {
            return port.settings[sort];
        }
        return what == 1 ? port.busy[sort] : BAD;
    }

    // ---- ahead

    public int beside(int n, int what) {
        if (what < 0 || what >= Port.OUTCOMES) {
            return BAD;
        }
        int refusal = refusedAhead(n, LONGEST_RUN);
        if (refusal != 0) {
            return refusal;
        }
        aside.become(port);
        for (int k = 0; k < n; k++) {
            aside.step();
        }
        return aside.outcome(what);
    }

    public int plan(int set, int n) {
        int refusal = refusedPlan(set, n);
        if (refusal != 0) {
            return refusal;
        }
        int one = lowest(set);
        int two = lowest(set & ~(1 << one));
        int lastOfTwo = two < 0 ? 0 : port.standCount;
        int best = -1;
        // Rows in their order: the wish of the visit with the higher number changes first.
        for (int i = -1; i < port.standCount; i++) {
            for (int j = -1; j < lastOfTwo; j++) {
                if (!port.fits(one, i) || two >= 0 && !port.fits(two, j)) {
                    continue;
                }
                int ticks = lateWith(one, i, two, j, n);
                if (best < 0 || ticks < best) {
                    best = ticks;
                    kept.keep(set, one, i, j);
                }
            }
        }
        return best;
    }

    public int planned(int v) {
        return kept.holds(v) ? kept.wishOf(v) : STATE;
    }

    public int settle() {
        if (!areAhead(kept.set)) {
            return STATE;
        }
        for (int v = 0; v < port.visitCount; v++) {
            if (kept.holds(v)) {
                port.visits[v].wish = kept.wishOf(v);
            }
        }
        return Integer.bitCount(kept.set);
    }

    public int estimate(int v, int eta) {
        if (!port.hasVisit(v)) {
            return NONE;
        }
        if (eta < 0 || eta > LAST_TICK) {
            return BAD;
        }
        return estimates.add(v, eta, port.tick);
    }

    public int expects(int v, int known) {
        if (!port.hasVisit(v)) {
            return NONE;
        }
        if (known < 0 || known > port.tick) {
            return BAD;
        }
        Visit x = port.visits[v];
        boolean iced = port.settings[Port.COLD] == 1;
        return Math.max(x.etd, thereBy(v, known) + Planes.wayThrough(x.kind, iced));
    }

    public int misses(int v, int known) {
        if (!port.hasVisit(v)) {
            return NONE;
        }
        if (known < 0 || known > port.tick) {
            return BAD;
        }
        Visit x = port.visits[v];
        int loaded = thereBy(v, known) + Planes.wayToLoad(x.kind);
        int last = Math.max(x.etd - Planes.lasts(x.kind, Planes.PUSH), loaded);
        int bags = 0;
        for (int f = 0; f < port.feedCount; f++) {
            Feed y = port.feeds[f];
            if (y.to == v && cartThereBy(y, known) > last) {
                bags += y.bags;
            }
        }
        return bags;
    }

    // ---- rules

    public int feedTape(long w, int n) {
        if (n < 1 || n > 8) {
            return BAD;
        }
        return texts.append(w, n);
    }

    public int text() {
        return texts.take();
    }

    public int force(int t) {
        if (t < 0 || t >= texts.size) {
            return BAD;
        }
        int was = texts.forced;
        texts.forced = t;
        port.rule = texts.rule();
        return was;
    }

    public long tells(int v, int part) {
        if (!port.hasVisit(v) || part < 0 || part >= Rule.PARTS) {
            return NO;
        }
        port.learn(v, -1);
        return port.rule.says(part, port.names);
    }

    public int count(int what) {
        switch (what) {
            case 0: return port.tick;
            case 1: return port.visitCount;
            case 2: return port.standCount;
            case 3: return port.feedCount;
            case 4: return texts.size;
            case 5: return texts.forced;
            case 6: return texts.tapeSize;
            case 7: return estimates.size;
            case 8: return port.lateInAll();
            case 9: return port.missedBags();
            case 10: return port.settings[Port.SPARE];
            case 11: return port.settings[Port.FOG];
            case 12: return port.settings[Port.COLD];
            case 13: return port.settings[Port.RUNWAYS];
            default: return BAD;
        }
    }

    // ---- the host

    public int sheet(int s, int sort, int n) {
        if (s < 0 || s >= SHEETS || sort < Sheet.MISSING || sort >= Sheet.SORTS) {
            return BAD;
        }
        if (sort != Sheet.MISSING) {
            if (n > Sheet.MOST) {
                return BAD;
            }
            if (n < 0) {
                return SIZE_BELOW_ZERO;
            }
        }
        sheets[s].renew(sort, n);
        return 1;
    }

    public int cell(int s, int i, int v) {
        if (s < 0 || s >= SHEETS) {
            return BAD;
        }
        Sheet row = sheets[s];
        if (row.isMissing()) {
            return NOTHING_THERE;
        }
        if (!row.has(i)) {
            return OUTSIDE;
        }
        row.put(i, v);
        return 1;
    }

    public int copy(int s, int i, int other, int j, int n) {
        if (s < 0 || s >= SHEETS || other < 0 || other >= SHEETS) {
            return BAD;
        }
        Sheet from = sheets[s];
        Sheet to = sheets[other];
        if (from.isMissing() || to.isMissing()) {
            return NOTHING_THERE;
        }
        if (from.sort != to.sort) {
            return UNLIKE;
        }
        if (!from.spans(i, n) || !to.spans(j, n)) {
            return OUTSIDE;
        }
        System.arraycopy(from.cells, i, to.cells, j, n);
        return n;
    }

    public int visits(int s, int sort, int from, int n) {
        boolean told = s >= 0 && s < SHEETS && sort >= 0 && sort < Sheet.SORTS
            && n >= 0 && n <= MOST_BY_SHEET;
        if (!told) {
            return BAD;
        }
        Sheet row = sheets[s];
        if (row.isMissing()) {
            return NOTHING_THERE;
        }
        if (row.sort != sort) {
            return UNLIKE;
        }
        return visitsOf(row, from, n);
    }

    public int taken(int v, int kind) {
        if (!Planes.isKind(kind)) {
            return BAD;
        }
        if (!port.hasVisit(v)) {
            return NOTHING_THERE;
        }
        int own = port.visits[v].kind;
        return Planes.isA(own, kind) ? Planes.size(own) : UNLIKE;
    }

    // ---- behind the face

    /** BAD or FULL if the port can't go n ticks on, else 0. */
    private int refusedAhead(int n, int most) {
        if (n < 1 || n > most) {
            return BAD;
        }
        return port.tick + n > LAST_TICK ? FULL : 0;
    }

    private boolean areAhead(int set) {
        for (int v = 0; v < port.visitCount; v++) {
            if ((set >> v & 1) == 1 && !port.visits[v].isAhead()) {
                return false;
            }
        }
        return true;
    }

    private int refusedPlan(int set, int n) {
        if (set == 0 || set >>> port.visitCount != 0) {
            return NONE;
        }
        int refusal = refusedAhead(n, LONGEST_PLAN);
        if (refusal == BAD || Integer.bitCount(set) > MOST_PLANNED) {
            return BAD;
        }
        return areAhead(set) ? refusal : STATE;
    }

    /** The lowest visit of a set; -1: it is empty. */
    private int lowest(int set) {
        for (int v = 0; v < port.visitCount; v++) {
            if ((set >> v & 1) == 1) {
                return v;
            }
        }
        return -1;
    }

    /** The late ticks of all visits in n ticks, if one visit, or two, had such wishes. */
    private int lateWith(int one, int wishOfOne, int two, int wishOfTwo, int n) {
        aside.become(port);
        aside.visits[one].wish = wishOfOne;
        if (two >= 0) {
            aside.visits[two].wish = wishOfTwo;
        }
        for (int k = 0; k < n; k++) {
            aside.step();
        }
        return aside.lateInAll();
    }

    /** When a visit is at its stand, by what was told of it up to the tick known. */
    private int thereBy(int v, int known) {
        Visit x = port.visits[v];
        return estimates.thought(v, known, x.eta) + Planes.roll(x.kind) + Visit.ROLLING;
    }

    private int cartThereBy(Feed y, int known) {
        return thereBy(y.from, known) + Planes.wayToUnload(port.visits[y.from].kind) + y.cart;
    }

    private int visitsOf(Sheet row, int from, int n) {
        int came = 0;
        for (int k = 0; k < n; k++) {
            long place = from + (long) k * NUMBERS_A_VISIT;
            if (place < 0 || place + NUMBERS_A_VISIT > row.size) {
                return OUTSIDE;
            }
            int i = (int) place;
            int number = visit(row.cells[i], row.cells[i + 1], row.cells[i + 2], row.cells[i + 3]);
            if (number >= 0) {
                came++;
            }
        }
        return came;
    }

    /** What is told of the kinds of planes and of the acts done on them. */
    static final class Planes {
        static final int ACTS = 8, SORTS = 5;
        static final int STAIRS = 0, UNLOAD = 1, CLEAN = 2, FUEL = 3, FOOD = 4, LOAD = 5, ICE = 6, PUSH = 7;
        static final int ICER = 4;

        private static final int KINDS = 6;
        private static final int[] ABOVE = {-1, 0, 0, 1, 2, 3};
        private static final int[] SIZES = {1, 2, 1, 3, 1, 3};
        private static final int[] ROLLS = {2, 2, 2, 3, 2, 3};
        private static final int[] LASTS = {
            2, 6, 4, 5, 4, 8, 6, 3,
            2, 10, 4, 8, 4, 12, 6, 3,
            2, 6, 2, 5, 0, 8, 6, 3,
            2, 20, 4, 8, 4, 24, 12, 3,
            2, 3, 2, 5, 0, 4, 6, 3,
            2, 20, 0, 8, 0, 34, 12, 3
        };
        /** Of each act the bits of those that it comes behind. */
        private static final int[] BEHIND = {
            0, 1 << STAIRS, 1 << UNLOAD, 1 << UNLOAD, 1 << CLEAN,
            1 << FUEL | 1 << FOOD, 1 << LOAD, 1 << LOAD | 1 << ICE
        };
        private static final int[] TRUCK = {0, -1, -1, 1, 2, -1, ICER, 3};

        static boolean isKind(int kind) {
            return kind >= 0 && kind < KINDS;
        }

        static int size(int kind) {
            return SIZES[kind];
        }

        static int roll(int kind) {
            return ROLLS[kind];
        }

        static int lasts(int kind, int act) {
            return LASTS[kind * ACTS + act];
        }

        static int behind(int act) {
            return BEHIND[act];
        }

        /** The sort of truck that an act needs; -1: none. */
        static int truckFor(int act) {
            return TRUCK[act];
        }

        static boolean isA(int kind, int other) {
            int k = kind;
            for (int up = 0; up < KINDS && k >= 0; up++) {
                if (k == other) {
                    return true;
                }
                k = ABOVE[k];
            }
            return false;
        }

        static int wayToUnload(int kind) {
            return lasts(kind, STAIRS) + lasts(kind, UNLOAD);
        }

        static int wayToLoad(int kind) {
            int fed = lasts(kind, CLEAN) + lasts(kind, FOOD);
            return wayToUnload(kind) + Math.max(lasts(kind, FUEL), fed) + lasts(kind, LOAD);
        }

        static int wayThrough(int kind, boolean iced) {
            return wayToLoad(kind) + (iced ? lasts(kind, ICE) : 0) + lasts(kind, PUSH);
        }
    }

    /** A plane's visit, from when it is told till it is gone. */
    static final class Visit {
        static final int DUE = 0, HOLDS = 1, LANDS = 2, ROLLS = 3, STANDS = 4, WAITS = 5, LEAVES = 6,
            GONE = 7, WENT = 8;
        static final int BY_ARRIVAL = 0, BY_STAND = 1, BY_WORK = 2, BY_WANT = 3, BY_BAGS = 4,
            BY_RUNWAY = 5, BY_FOG = 6, BY_CREW = 7, BY_ICE = 8, CAUSES = 9;
        static final int LONGEST_HOLD = 60, ROLLING = 4, WAITING = 4, ICE_LASTS = 40;

        int kind, eta, etd, crew, late, wish;
        int state, since, stand;
        /** Acts as bits: those done, and those under way. */
        int done, under;
        /** The cause that its least act not done gave in this tick, as long as it stands. */
        int hinder;
        /** When it was iced last; -1: never. */
        int iced;
        final int[] left = new int[Planes.ACTS];
        final int[] causes = new int[CAUSES];

        void begin(int itsKind, int itsEta, int itsEtd, int itsCrew, int tick) {
            kind = itsKind;
            eta = itsEta;
            etd = itsEtd;
            crew = itsCrew;
            wish = -1;
            stand = -1;
            iced = -1;
            enter(DUE, tick);
        }

        void become(Visit x) {
            kind = x.kind;
            eta = x.eta;
            etd = x.etd;
            crew = x.crew;
            late = x.late;
            wish = x.wish;
            state = x.state;
            since = x.since;
            stand = x.stand;
            done = x.done;
            under = x.under;
            hinder = x.hinder;
            iced = x.iced;
            System.arraycopy(x.left, 0, left, 0, Planes.ACTS);
            System.arraycopy(x.causes, 0, causes, 0, CAUSES);
        }

        void enter(int newState, int tick) {
            state = newState;
            since = tick;
        }

        int comes() {
            return eta + late;
        }

        int limit() {
            return eta + late + crew;
        }

        /** Whether its wish may still be told. */
        boolean isAhead() {
            return state == DUE || state == HOLDS;
        }

        boolean isUnder(int act) {
            return (under >> act & 1) == 1;
        }

        boolean isDone(int act) {
            return (done >> act & 1) == 1;
        }

        boolean mayBegin(int act) {
            return (Planes.behind(act) & ~done) == 0;
        }

        void startAct(int act) {
            under |= 1 << act;
            left[act] = Planes.lasts(kind, act);
        }

        void endAct(int act) {
            under &= ~(1 << act);
            done |= 1 << act;
        }

        boolean needsIce(int cold, int tick) {
            return cold == 1 && (iced < 0 || tick - iced > ICE_LASTS);
        }

        int lateTicks() {
            int sum = 0;
            for (int c = 0; c < CAUSES; c++) {
                sum += causes[c];
            }
            return sum;
        }

        int told(int what) {
            switch (what) {
                case 0: return kind;
                case 1: return state;
                case 2: return since;
                case 3: return stand;
                case 4: return comes();
                case 5: return etd;
                case 6: return done;
                case 7: return lateTicks();
                case 8: return under;
                case 9: return wish;
                case 10: return limit();
                default: return BAD;
            }
        }
    }

    /** Bags that go from one visit to another. */
    static final class Feed {
        /** States: ahead of THERE it is still on its way. */
        static final int IN_PLANE = 0, ON_CART = 1, THERE = 2, MISSED = 3;

        int from, to, bags, cart, state;
        /** When its cart comes; -1: not told yet. */
        int comes;

        void begin(int itsFrom, int itsTo, int itsBags, int itsCart) {
            from = itsFrom;
            to = itsTo;
            bags = itsBags;
            cart = itsCart;
            comes = -1;
        }

        void become(Feed x) {
            from = x.from;
            to = x.to;
            bags = x.bags;
            cart = x.cart;
            state = x.state;
            comes = x.comes;
        }

        int told(int what) {
            switch (what) {
                case 0: return from;
                case 1: return to;
                case 2: return bags;
                case 3: return state;
                case 4: return comes;
                default: return BAD;
            }
        }
    }

    /** The port at a tick, and what a tick does to it. */
    static final class Port {
        static final int MOST_STANDS = 6, MOST_RUNWAYS = 2, OUTCOMES = 5;
        /** Places in settings; below them the sorts of trucks. */
        static final int FOG = 5, COLD = 6, SPARE = 7, RUNWAYS = 8;

        private static final int MOST_VISITS = 12, MOST_FEEDS = 16, SETTINGS = 9;
        private static final int[] LEAST_SET = {0, 0, 0, 0, 0, 0, 0, 0, 1};
        private static final int[] MOST_SET = {9, 9, 9, 9, 9, 1, 1, 9, MOST_RUNWAYS};

        int tick, standCount, visitCount, feedCount;
        Rule rule;
        final int[] settings = new int[SETTINGS];
        final int[] busy = new int[Planes.SORTS];
        final int[] standSizes = new int[MOST_STANDS];
        final int[] holders = new int[MOST_STANDS];
        final int[] ends = new int[MOST_RUNWAYS];
        final int[] prevs = new int[MOST_RUNWAYS];
        final Visit[] visits = new Visit[MOST_VISITS];
        final Feed[] feeds = new Feed[MOST_FEEDS];
        /** What the names of a rule are for the visit that it is asked of. */
        final int[] names = new int[Rule.NAMES];

        Port(Rule first) {
            rule = first;
            settings[RUNWAYS] = 1;
            for (int r = 0; r < MOST_RUNWAYS; r++) {
                prevs[r] = -1;
            }
            for (int v = 0; v < MOST_VISITS; v++) {
                visits[v] = new Visit();
            }
            for (int f = 0; f < MOST_FEEDS; f++) {
                feeds[f] = new Feed();
            }
        }

        void become(Port x) {
            tick = x.tick;
            standCount = x.standCount;
            visitCount = x.visitCount;
            feedCount = x.feedCount;
            rule = x.rule;
            System.arraycopy(x.settings, 0, settings, 0, SETTINGS);
            System.arraycopy(x.busy, 0, busy, 0, Planes.SORTS);
            System.arraycopy(x.standSizes, 0, standSizes, 0, MOST_STANDS);
            System.arraycopy(x.holders, 0, holders, 0, MOST_STANDS);
            System.arraycopy(x.ends, 0, ends, 0, MOST_RUNWAYS);
            System.arraycopy(x.prevs, 0, prevs, 0, MOST_RUNWAYS);
            for (int v = 0; v < visitCount; v++) {
                visits[v].become(x.visits[v]);
            }
            for (int f = 0; f < feedCount; f++) {
                feeds[f].become(x.feeds[f]);
            }
        }

        static boolean maySet(int what, int v) {
            return what >= 0 && what < SETTINGS && v >= LEAST_SET[what] && v <= MOST_SET[what];
        }

        boolean hasVisit(int v) {
            return v >= 0 && v < visitCount;
        }

        boolean hasFeed(int f) {
            return f >= 0 && f < feedCount;
        }

        boolean hasStand(int s) {
            return s >= 0 && s < standCount;
        }

        int addStand(int size) {
            if (standCount >= MOST_STANDS) {
                return FULL;
            }
            standSizes[standCount] = size;
            holders[standCount] = -1;
            return standCount++;
        }

        int addVisit(int kind, int eta, int etd, int crew) {
            if (visitCount >= MOST_VISITS) {
                return FULL;
            }
            visits[visitCount].begin(kind, eta, etd, crew, tick);
            return visitCount++;
        }

        int addFeed(int from, int to, int bags, int cart) {
            if (feedCount >= MOST_FEEDS) {
                return FULL;
            }
            feeds[feedCount].begin(from, to, bags, cart);
            return feedCount++;
        }

        /** Whether a visit may wish a stand; it may always wish none (-1). */
        boolean fits(int v, int s) {
            return s < 0 || standSizes[s] >= Planes.size(visits[v].kind);
        }

        int outcome(int what) {
            switch (what) {
                case 0: return lateInAll();
                case 1: return howMany(Visit.GONE);
                case 2: return howMany(Visit.WENT);
                case 3: return missedBags();
                default: return settings[SPARE];
            }
        }

        int lateInAll() {
            int sum = 0;
            for (int v = 0; v < visitCount; v++) {
                sum += visits[v].lateTicks();
            }
            return sum;
        }

        int missedBags() {
            int sum = 0;
            for (int f = 0; f < feedCount; f++) {
                if (feeds[f].state == Feed.MISSED) {
                    sum += feeds[f].bags;
                }
            }
            return sum;
        }

        private int howMany(int state) {
            int many = 0;
            for (int v = 0; v < visitCount; v++) {
                if (visits[v].state == state) {
                    many++;
                }
            }
            return many;
        }

        void step() {
            for (int v = 0; v < visitCount; v++) {
                move(visits[v]);
            }
            for (int v = 0; v < visitCount; v++) {
                work(v);
            }
            for (int f = 0; f < feedCount; f++) {
                carry(feeds[f]);
            }
            for (int v = 0; v < visitCount; v++) {
                if (visits[v].state == Visit.STANDS) {
                    serve(v);
                }
            }
            for (int v = 0; v < visitCount; v++) {
                iceAgain(visits[v]);
            }
            int open = settings[FOG] == 1 ? 1 : settings[RUNWAYS];
            for (int r = 0; r < open; r++) {
                giveRunway(r, bestFor(r));
            }
            for (int v = 0; v < visitCount; v++) {
                blame(visits[v]);
            }
            tick++;
        }

        private void move(Visit x) {
            int stays = tick - x.since;
            switch (x.state) {
                case Visit.DUE:
                    if (tick >= x.comes()) {
                        x.enter(Visit.HOLDS, tick);
                    }
                    break;
                case Visit.HOLDS:
                    if (stays >= Visit.LONGEST_HOLD) {
                        x.enter(Visit.WENT, tick);
                    }
                    break;
                case Visit.LANDS:
                    if (stays >= Planes.roll(x.kind)) {
                        x.enter(Visit.ROLLS, tick);
                    }
                    break;
                case Visit.ROLLS:
                    if (stays >= Visit.ROLLING) {
                        x.enter(Visit.STANDS, tick);
                    }
                    break;
                case Visit.LEAVES:
                    if (stays >= Planes.roll(x.kind)) {
                        x.enter(Visit.GONE, tick);
                    }
                    break;
                default:
                    break;
            }
        }

        private void work(int v) {
            Visit x = visits[v];
            if (x.under == 0) {
                return;
            }
            for (int act = 0; act < Planes.ACTS; act++) {
                if (x.isUnder(act)) {
                    x.left[act]--;
                    if (x.left[act] == 0) {
                        finish(v, act);
                    }
                }
            }
        }

        private void finish(int v, int act) {
            Visit x = visits[v];
            x.endAct(act);
            int sort = Planes.truckFor(act);
            if (sort >= 0) {
                busy[sort]--;
            }
            if (act == Planes.UNLOAD) {
                sendCarts(v);
            } else if (act == Planes.ICE) {
                x.iced = tick;
            } else if (act == Planes.PUSH) {
                if (hasStand(x.stand)) {
                    holders[x.stand] = -1;
                }
                x.stand = -1;
                x.enter(Visit.WAITS, tick);
            }
        }

        private void sendCarts(int v) {
            for (int f = 0; f < feedCount; f++) {
                Feed y = feeds[f];
                if (y.from == v && y.state == Feed.IN_PLANE) {
                    y.state = Feed.ON_CART;
                    y.comes = tick + y.cart;
                }
            }
        }

        private void carry(Feed y) {
            if (y.state >= Feed.THERE) {
                return;
            }
            Visit to = visits[y.to];
            boolean lost = y.state == Feed.IN_PLANE && visits[y.from].state == Visit.WENT;
            if (lost || to.state == Visit.WENT) {
                y.state = Feed.MISSED;
            } else if (y.state == Feed.ON_CART && tick >= y.comes) {
                y.state = to.isDone(Planes.LOAD) ? Feed.MISSED : Feed.THERE;
            }
        }

        /** Begins what can begin, and notes what the least act that isn't done behind that is late by. */
        private void serve(int v) {
            Visit x = visits[v];
            x.hinder = -1;
            for (int act = 0; act < Planes.ACTS; act++) {
                if (x.isDone(act) || !x.mayBegin(act)) {
                    continue;
                }
                int why = Visit.BY_WORK;
                if (!x.isUnder(act)) {
                    if (isNothing(x, act)) {
                        x.endAct(act);
                        continue;
                    }
                    why = hindrance(v, act);
                    if (why < 0) {
                        startNow(x, act);
                        why = Visit.BY_WORK;
                    }
                }
                if (x.hinder < 0) {
                    x.hinder = why;
                }
            }
        }

        private boolean isNothing(Visit x, int act) {
            return Planes.lasts(x.kind, act) == 0 || act == Planes.ICE && settings[COLD] == 0;
        }

        /** The first that hinders an act from beginning, as a cause; -1: nothing does. */
        private int hindrance(int v, int act) {
            Visit x = visits[v];
            if (act == Planes.LOAD && waitsForBags(v)) {
                return Visit.BY_BAGS;
            }
            if (act == Planes.PUSH && tick < x.etd - Planes.lasts(x.kind, act)) {
                return Visit.BY_WORK;
            }
            int sort = Planes.truckFor(act);
            if (sort >= 0 && busy[sort] >= settings[sort]) {
                return Visit.BY_WANT;
            }
            if (act == Planes.PUSH && tick > x.limit() && settings[SPARE] == 0) {
                return Visit.BY_CREW;
            }
            return -1;
        }

        private void startNow(Visit x, int act) {
            int sort = Planes.truckFor(act);
            if (sort >= 0) {
                busy[sort]++;
            }
            if (act == Planes.PUSH && tick > x.limit()) {
                settings[SPARE]--;
            }
            x.startAct(act);
        }

        private boolean waitsForBags(int v) {
            if (openFeeds(v) == 0) {
                return false;
            }
            learn(v, -1);
            // What hold says may be near the largest int: a long keeps the sum from wrapping.
            long till = (long) visits[v].etd + Math.max(0, rule.says(Rule.HOLD, names));
            return tick < till;
        }

        private int openFeeds(int v) {
            int open = 0;
            for (int f = 0; f < feedCount; f++) {
                if (feeds[f].to == v && feeds[f].state < Feed.THERE) {
                    open++;
                }
            }
            return open;
        }

        private void iceAgain(Visit x) {
            if (x.state != Visit.WAITS || x.isUnder(Planes.ICE) || !x.needsIce(settings[COLD], tick)) {
                return;
            }
            if (busy[Planes.ICER] < settings[Planes.ICER]) {
                startNow(x, Planes.ICE);
            }
        }

        private int bestFor(int r) {
            if (tick < ends[r]) {
                return -1;
            }
            int best = -1;
            int bestPrio = 0;
            for (int v = 0; v < visitCount; v++) {
                if (isReady(v, r)) {
                    learn(v, prevs[r]);
                    int prio = rule.says(Rule.PRIO, names);
                    if (best < 0 || prio > bestPrio) {
                        best = v;
                        bestPrio = prio;
                    }
                }
            }
            return best;
        }

        private boolean isReady(int v, int r) {
            Visit x = visits[v];
            boolean could = x.state == Visit.HOLDS ? standFor(x) >= 0 : isReadyToLeave(x);
            if (!could) {
                return false;
            }
            if (prevs[r] < 0) {
                return true;
            }
            learn(v, prevs[r]);
            long till = (long) ends[r] + Math.max(0, rule.says(Rule.SEP, names));
            return tick >= till;
        }

        private boolean isReadyToLeave(Visit x) {
            return x.state == Visit.WAITS && tick - x.since >= Visit.WAITING
                && !x.isUnder(Planes.ICE) && !x.needsIce(settings[COLD], tick);
        }

        /** The free stand that a visit would take now; -1: none. */
        private int standFor(Visit x) {
            if (hasStand(x.wish) && holders[x.wish] < 0) {
                return x.wish;
            }
            int best = -1;
            int size = Planes.size(x.kind);
            for (int s = 0; s < standCount; s++) {
                boolean fit = holders[s] < 0 && standSizes[s] >= size;
                if (fit && (best < 0 || standSizes[s] < standSizes[best])) {
                    best = s;
                }
            }
            return best;
        }

        private void giveRunway(int r, int v) {
            if (!hasVisit(v)) {
                return;
            }
            Visit x = visits[v];
            if (x.state == Visit.HOLDS) {
                x.stand = standFor(x);
                if (hasStand(x.stand)) {
                    holders[x.stand] = v;
                }
                x.enter(Visit.LANDS, tick);
            } else {
                x.enter(Visit.LEAVES, tick);
            }
            ends[r] = tick + Planes.roll(x.kind);
            prevs[r] = x.kind;
        }

        private void blame(Visit x) {
            if (x.state > Visit.WAITS || tick < x.etd) {
                return;
            }
            int cause = causeNow(x);
            if (cause >= 0) {
                x.causes[cause]++;
            }
        }

        private int causeNow(Visit x) {
            switch (x.state) {
                case Visit.HOLDS:
                    return standFor(x) < 0 ? Visit.BY_STAND : causeOfRunways();
                case Visit.STANDS:
                    return x.hinder;
                case Visit.WAITS:
                    if (x.isUnder(Planes.ICE) || x.needsIce(settings[COLD], tick)) {
                        return Visit.BY_ICE;
                    }
                    return tick - x.since < Visit.WAITING ? Visit.BY_WORK : causeOfRunways();
                default:
                    return Visit.BY_ARRIVAL;
            }
        }

        private int causeOfRunways() {
            return settings[FOG] == 1 && settings[RUNWAYS] == 2 ? Visit.BY_FOG : Visit.BY_RUNWAY;
        }

        /** Sets the names that a rule reads: of a visit now, asked for a runway with such a prev. */
        void learn(int v, int prev) {
            Visit x = visits[v];
            names[0] = x.state == Visit.HOLDS ? 1 : 0;
            names[1] = Math.max(0, tick - x.etd);
            names[2] = x.kind;
            names[3] = tick - x.since;
            names[4] = prev;
            names[5] = settings[FOG];
            names[6] = openFeeds(v);
            names[7] = x.limit() - tick;
        }
    }

    /** A text as it was read: of each part a row of codes, what signs join standing ahead of them. */
    static final class Rule {
        static final int PRIO = 0, SEP = 1, HOLD = 2, PARTS = 3, NAMES = 8;
        /** Codes: numbers are themselves, names and signs stand behind these. */
        static final int NAME = 10000, SIGN = NAME + NAMES;
        static final int OR = SIGN, AND = SIGN + 1, NOT = SIGN + 2, LESS = SIGN + 3, LIKE = SIGN + 4,
            PLUS = SIGN + 5, MINUS = SIGN + 6, TIMES = SIGN + 7, NEGATE = SIGN + 8;

        private final int[] codes = new int[Texts.TAPE];
        private final int[] partEnds = new int[PARTS];
        private final int[] stack = new int[Texts.TAPE];
        private int size;

        void clear() {
            size = 0;
        }

        void put(int code) {
            if (size < codes.length) {
                codes[size] = code;
                size++;
            }
        }

        void endPart(int part) {
            partEnds[part] = size;
        }

        /** What a part comes to; every index is looked at, though what the reader made needs it not. */
        int says(int part, int[] names) {
            int top = 0;
            int end = partEnds[part];
            for (int at = part == 0 ? 0 : partEnds[part - 1]; at < end; at++) {
                int code = codes[at];
                if (code < NAME && top < stack.length) {
                    stack[top] = code;
                    top++;
                } else if (code < SIGN && top < stack.length) {
                    stack[top] = names[code - NAME];
                    top++;
                } else if (code == NEGATE && top > 0) {
                    stack[top - 1] = -stack[top - 1];
                } else if (code == NOT && top > 0) {
                    stack[top - 1] = stack[top - 1] == 0 ? 1 : 0;
                } else if (top > 1) {
                    top--;
                    stack[top - 1] = joined(code, stack[top - 1], stack[top]);
                }
            }
            return stack[0];
        }

        private static int joined(int sign, int a, int b) {
            switch (sign) {
                case OR: return a != 0 || b != 0 ? 1 : 0;
                case AND: return a != 0 && b != 0 ? 1 : 0;
                case LESS: return a < b ? 1 : 0;
                case LIKE: return a == b ? 1 : 0;
                case PLUS: return a + b;
                case MINUS: return a - b;
                default: return a * b;
            }
        }
    }

    /** Reads a tape into a rule, token by token, and stops at the first that can't stand there. */
    static final class Reader {
        /** Tokens that are no sign; a sign is its own byte. */
        private static final int END = 256, NO_TOKEN = 257, NUMBER = 258, WORD = 259;
        /** Words, each five signs wide: the keys, of parts first, then the names. */
        private static final String WORDS =
            "prio sep  hold or   and  not  in   late kind wait prev fog  bags crew ";
        private static final int WORD_WIDTH = 5, ALL_WORDS = 14;
        private static final int OR = 3, AND = 4, NOT = 5, FIRST_NAME = 6;
        private static final int MOST_DIGITS = 4, MOST_OPEN = 5;
        private static final String SIGNS = "();+-*<=";

        final int[] tape = new int[Texts.TAPE];
        private int size, at;
        private int token, start, value;
        private Rule rule;

        /** The place of the fault; -1: there is none, and the rule is made. */
        int read(int tapeSize, Rule into) {
            size = tapeSize;
            at = 0;
            rule = into;
            rule.clear();
            next();
            for (int part = 0; part < Rule.PARTS; part++) {
                if (!isWord(part)) {
                    return start;
                }
                next();
                if (!either(0) || token != ';') {
                    return start;
                }
                next();
                rule.endPart(part);
            }
            return token == END ? -1 : start;
        }

        // Each of these reads one form and stands behind it then, or is false at the faulty token;
        // open: how many of ( not - are open around it.

        private boolean either(int open) {
            if (!both(open)) {
                return false;
            }
            for (int k = 0; k < Texts.TAPE && isWord(OR); k++) {
                next();
                if (!both(open)) {
                    return false;
                }
                rule.put(Rule.OR);
            }
            return true;
        }

        private boolean both(int open) {
            if (!negated(open)) {
                return false;
            }
            for (int k = 0; k < Texts.TAPE && isWord(AND); k++) {
                next();
                if (!negated(open)) {
                    return false;
                }
                rule.put(Rule.AND);
            }
            return true;
        }

        private boolean negated(int open) {
            if (!isWord(NOT)) {
                return compared(open);
            }
            if (open >= MOST_OPEN) {
                return false;
            }
            next();
            if (!negated(open + 1)) {
                return false;
            }
            rule.put(Rule.NOT);
            return true;
        }

        private boolean compared(int open) {
            if (!sum(open)) {
                return false;
            }
            if (token != '<' && token != '=') {
                return true;
            }
            int sign = token == '<' ? Rule.LESS : Rule.LIKE;
            next();
            if (!sum(open)) {
                return false;
            }
            rule.put(sign);
            return true;
        }

        private boolean sum(int open) {
            if (!term(open)) {
                return false;
            }
            for (int k = 0; k < Texts.TAPE && (token == '+' || token == '-'); k++) {
                int sign = token == '+' ? Rule.PLUS : Rule.MINUS;
                next();
                if (!term(open)) {
                    return false;
                }
                rule.put(sign);
            }
            return true;
        }

        private boolean term(int open) {
            if (!one(open)) {
                return false;
            }
            for (int k = 0; k < Texts.TAPE && token == '*'; k++) {
                next();
                if (!one(open)) {
                    return false;
                }
                rule.put(Rule.TIMES);
            }
            return true;
        }

        private boolean one(int open) {
            if (token == NUMBER || token == WORD && value >= FIRST_NAME) {
                rule.put(token == NUMBER ? value : Rule.NAME + value - FIRST_NAME);
                next();
                return true;
            }
            if (token != '(' && token != '-' || open >= MOST_OPEN) {
                return false;
            }
            return token == '(' ? enclosed(open + 1) : negative(open + 1);
        }

        private boolean enclosed(int open) {
            next();
            if (!either(open) || token != ')') {
                return false;
            }
            next();
            return true;
        }

        private boolean negative(int open) {
            next();
            if (!one(open)) {
                return false;
            }
            rule.put(Rule.NEGATE);
            return true;
        }

        private boolean isWord(int word) {
            return token == WORD && value == word;
        }

        private void next() {
            while (at < size && isBlank(tape[at])) {
                at++;
            }
            start = at;
            if (at >= size) {
                token = END;
            } else if (isLetter(tape[at])) {
                readWord();
            } else if (isDigit(tape[at])) {
                readNumber();
            } else {
                token = SIGNS.indexOf((char) tape[at]) < 0 ? NO_TOKEN : tape[at];
                at++;
            }
        }

        private void readWord() {
            while (at < size && isLetter(tape[at])) {
                at++;
            }
            value = wordOf(start, at - start);
            token = value < 0 ? NO_TOKEN : WORD;
        }

        private void readNumber() {
            value = 0;
            while (at < size && isDigit(tape[at])) {
                if (at - start < MOST_DIGITS) {
                    value = value * 10 + tape[at] - '0';
                }
                at++;
            }
            token = at - start > MOST_DIGITS ? NO_TOKEN : NUMBER;
        }

        /** Which of WORDS stands on the tape at such a place in such a length; -1: none. */
        private int wordOf(int from, int length) {
            for (int w = 0; w < ALL_WORDS && length < WORD_WIDTH; w++) {
                boolean like = true;
                for (int i = 0; i < WORD_WIDTH && like; i++) {
                    int sign = i < length ? tape[from + i] : ' ';
                    like = WORDS.charAt(w * WORD_WIDTH + i) == sign;
                }
                if (like) {
                    return w;
                }
            }
            return -1;
        }

        private static boolean isBlank(int b) {
            return b == ' ' || b == '\n';
        }

        private static boolean isLetter(int b) {
            return b >= 'a' && b <= 'z';
        }

        private static boolean isDigit(int b) {
            return b >= '0' && b <= '9';
        }
    }

    /** The tape, the texts that were read from it, and which of them is the rule. */
    static final class Texts {
        static final int TAPE = 160;

        private static final int MOST = 6;
        private static final int FAULT = -100;
        private static final String FIRST = "prio in * 100 + wait ; sep 2 + fog * 4 ; hold 0 ;";

        int tapeSize, size, forced;
        private final Rule[] rules = new Rule[MOST];
        private final Reader reader = new Reader();

        Texts() {
            for (int t = 0; t < MOST; t++) {
                rules[t] = new Rule();
            }
            for (int i = 0; i < FIRST.length() && i < TAPE; i++) {
                reader.tape[i] = FIRST.charAt(i);
            }
            tapeSize = FIRST.length();
            take();
        }

        Rule rule() {
            return rules[forced];
        }

        int append(long w, int n) {
            if (tapeSize + n > TAPE) {
                return FULL;
            }
            for (int k = n - 1; k >= 0; k--) {
                reader.tape[tapeSize] = (int) (w >> 8 * k) & 255;
                tapeSize++;
            }
            return tapeSize;
        }

        int take() {
            if (size >= MOST) {
                return FULL;
            }
            int fault = reader.read(tapeSize, rules[size]);
            tapeSize = 0;
            return fault >= 0 ? FAULT - fault : size++;
        }
    }

    /** The plan that was kept last. */
    static final class Plan {
        /** Its visits as bits; none: no plan was kept. */
        int set;
        private int first, wishOfFirst, wishOfSecond;

        void keep(int itsSet, int one, int wishOfOne, int wishOfOther) {
            set = itsSet;
            first = one;
            wishOfFirst = wishOfOne;
            wishOfSecond = wishOfOther;
        }

        boolean holds(int v) {
            return v >= 0 && v < Port.MOST_VISITS && (set >> v & 1) == 1;
        }

        int wishOf(int v) {
            return v == first ? wishOfFirst : wishOfSecond;
        }
    }

    /** The etas that were told beside the port's own, in the order of their telling. */
    static final class Estimates {
        private static final int MOST = 40;

        int size;
        private final int[] visitOf = new int[MOST];
        private final int[] etas = new int[MOST];
        private final int[] toldAt = new int[MOST];

        int add(int v, int eta, int tick) {
            if (size >= MOST) {
                return FULL;
            }
            visitOf[size] = v;
            etas[size] = eta;
            toldAt[size] = tick;
            return size++;
        }

        int thought(int v, int known, int eta) {
            for (int e = size - 1; e >= 0; e--) {
                if (visitOf[e] == v && toldAt[e] <= known) {
                    return etas[e];
                }
            }
            return eta;
        }
    }

    /** A row of numbers of the host's, or none: its cells are used again by every row. */
    static final class Sheet {
        static final int MISSING = -1, BYTES = 0, SHORTS = 1, SORTS = 3, MOST = 40;

        int sort = MISSING;
        int size;
        final int[] cells = new int[MOST];

        void renew(int itsSort, int itsSize) {
            sort = itsSort;
            size = itsSort == MISSING ? 0 : itsSize;
            for (int i = 0; i < MOST; i++) {
                cells[i] = 0;
            }
        }

        boolean isMissing() {
            return sort == MISSING;
        }

        boolean has(int i) {
            return i >= 0 && i < size;
        }

        boolean spans(int i, int n) {
            return i >= 0 && n >= 0 && n <= size && i <= size - n;
        }

        void put(int i, int v) {
            if (sort == BYTES) {
                cells[i] = (byte) v;
            } else if (sort == SHORTS) {
                cells[i] = (short) v;
            } else {
                cells[i] = v;
            }
        }
    }
}
