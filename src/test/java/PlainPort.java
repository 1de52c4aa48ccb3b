import java.util.ArrayList;
import java.util.HashMap;
import java.util.List;
import java.util.Map;
import java.util.TreeMap;

/**
 * The document's words a second time, written for plainness and in other ways than the class (lists,
 * deep copies, a table of signs instead of a descent), so that a slip in one shows against the other.
 */
final class PlainPort {
    static final String[] CAUSES = {"ARRIVAL", "STAND", "WORK", "WANT", "BAGS", "RUNWAY", "FOG", "CREW", "ICE"};
    static final String[] ACTS = {"STAIRS", "UNLOAD", "CLEAN", "FUEL", "FOOD", "LOAD", "ICE", "PUSH"};
    static final String[] STATES = {"DUE", "HOLDS", "LANDS", "ROLLS", "STANDS", "WAITS", "LEAVES", "GONE", "WENT"};

    static int at(String[] row, String word) {
        for (int i = 0; i < row.length; i++) {
            if (row[i].equals(word)) {
                return i;
            }
        }
        throw new IllegalStateException(word);
    }

    /** A kind as the document tells it: what isn't told is as of the kind above. */
    static final class Kind {
        final Kind above;
        int size;
        int roll;
        final Map<String, Integer> ticks = new HashMap<>();

        Kind(Kind above) {
            this.above = above;
            if (above != null) {
                size = above.size;
                roll = above.roll;
                ticks.putAll(above.ticks);
            }
        }

        Kind more(String act, int by) {
            ticks.put(act, ticks.get(act) + by);
            return this;
        }

        Kind is(String act, int n) {
            ticks.put(act, n);
            return this;
        }

        boolean isOne(Kind other) {
            return this == other || above != null && above.isOne(other);
        }

        /** The longest way from the stand to the end of an act, through the acts ahead of it. */
        int way(String act, boolean cold) {
            int longest = 0;
            for (String ahead : AHEAD.get(act)) {
                longest = Math.max(longest, way(ahead, cold));
            }
            return longest + (act.equals("ICE") && !cold ? 0 : ticks.get(act));
        }
    }

    static final Map<String, List<String>> AHEAD = Map.of("STAIRS", List.of(), "UNLOAD", List.of("STAIRS"),
        "CLEAN", List.of("UNLOAD"), "FUEL", List.of("UNLOAD"), "FOOD", List.of("CLEAN"),
        "LOAD", List.of("FUEL", "FOOD"), "ICE", List.of("LOAD"), "PUSH", List.of("LOAD", "ICE"));
    static final Map<String, Integer> TRUCK = Map.of("STAIRS", 0, "FUEL", 1, "FOOD", 2, "PUSH", 3, "ICE", 4);
    static final List<Kind> KINDS = kinds();

    static List<Kind> kinds() {
        Kind plane = new Kind(null);
        plane.size = 1;
        plane.roll = 2;
        int[] ticks = {2, 6, 4, 5, 4, 8, 6, 3};
        for (int a = 0; a < 8; a++) {
            plane.is(ACTS[a], ticks[a]);
        }
        Kind jet = new Kind(plane).more("UNLOAD", 4).more("LOAD", 4).more("FUEL", 3);
        jet.size = 2;
        Kind prop = new Kind(plane).more("CLEAN", -2).is("FOOD", 0);
        Kind wide = new Kind(jet).is("UNLOAD", 2 * jet.ticks.get("UNLOAD")).is("LOAD", 2 * jet.ticks.get("LOAD"))
            .more("ICE", 6);
        wide.size = 3;
        wide.roll = 3;
        Kind shuttle = new Kind(prop).is("UNLOAD", prop.ticks.get("UNLOAD") / 2).is("LOAD", prop.ticks.get("LOAD") / 2);
        Kind freighter = new Kind(wide).is("CLEAN", 0).is("FOOD", 0).more("LOAD", 10);
        return List.of(plane, jet, prop, wide, shuttle, freighter);
    }

    static final class Flight {
        int number;
        int kind;
        int eta;
        int etd;
        int crew;
        int late;
        Integer wish;
        String state = "DUE";
        int since;
        Integer stand;
        Integer iced;
        List<String> done = new ArrayList<>();
        Map<String, Integer> under = new TreeMap<>();
        String why;
        Map<String, Integer> causes = new HashMap<>();

        Kind kind() {
            return KINDS.get(kind);
        }

        int limit() {
            return eta + late + crew;
        }

        int lateTicks() {
            return causes.values().stream().mapToInt(i -> i).sum();
        }

        Flight same() {
            Flight f = new Flight();
            f.number = number;
            f.kind = kind;
            f.eta = eta;
            f.etd = etd;
            f.crew = crew;
            f.late = late;
            f.wish = wish;
            f.state = state;
            f.since = since;
            f.stand = stand;
            f.iced = iced;
            f.done = new ArrayList<>(done);
            f.under = new TreeMap<>(under);
            f.causes = new HashMap<>(causes);
            return f;
        }
    }

    static final class Bags {
        int from;
        int to;
        int bags;
        int cart;
        int state;
        int comes = -1;

        Bags same() {
            Bags b = new Bags();
            b.from = from;
            b.to = to;
            b.bags = bags;
            b.cart = cart;
            b.state = state;
            b.comes = comes;
            return b;
        }
    }

    int tick;
    final List<Integer> stands = new ArrayList<>();
    final int[] set = {0, 0, 0, 0, 0, 0, 0, 0, 1};
    final int[] ends = {0, 0};
    final int[] prevs = {-1, -1};
    final List<Flight> flights = new ArrayList<>();
    final List<Bags> feeds = new ArrayList<>();
    PlainText rule = PlainText.of("prio in * 100 + wait ; sep 2 + fog * 4 ; hold 0 ;");
    final List<PlainText> texts = new ArrayList<>(List.of(rule));
    final List<Integer> tape = new ArrayList<>();
    final List<int[]> estimates = new ArrayList<>();
    final Map<Integer, Integer> kept = new TreeMap<>();
    final long[][] rows = new long[4][];
    final int[] sorts = new int[4];

    PlainPort same() {
        PlainPort p = new PlainPort();
        p.tick = tick;
        p.stands.addAll(stands);
        System.arraycopy(set, 0, p.set, 0, 9);
        System.arraycopy(ends, 0, p.ends, 0, 2);
        System.arraycopy(prevs, 0, p.prevs, 0, 2);
        flights.forEach(f -> p.flights.add(f.same()));
        feeds.forEach(f -> p.feeds.add(f.same()));
        p.rule = rule;
        return p;
    }

    // ---- a tick

    int busy(int sort) {
        int n = 0;
        for (Flight f : flights) {
            for (String act : f.under.keySet()) {
                if (TRUCK.getOrDefault(act, -1) == sort) {
                    n++;
                }
            }
        }
        return n;
    }

    Flight holderOf(int stand) {
        for (Flight f : flights) {
            if (f.stand != null && f.stand == stand) {
                return f;
            }
        }
        return null;
    }

    int stood(Flight f) {
        return tick - f.since;
    }

    void state(Flight f, String state) {
        f.state = state;
        f.since = tick;
    }

    boolean waitsForIce(Flight f) {
        return set[6] == 1 && (f.iced == null || tick - f.iced > 40);
    }

    long openFeedsTo(Flight f) {
        return feeds.stream().filter(b -> b.to == f.number && b.state < 2).count();
    }

    int ask(int part, Flight f, int prev) {
        Map<String, Integer> names = new HashMap<>();
        names.put("in", f.state.equals("HOLDS") ? 1 : 0);
        names.put("late", tick > f.etd ? tick - f.etd : 0);
        names.put("kind", f.kind);
        names.put("wait", tick - f.since);
        names.put("prev", prev);
        names.put("fog", set[5]);
        names.put("bags", (int) openFeedsTo(f));
        names.put("crew", f.limit() - tick);
        return rule.value(part, names);
    }

    Integer standFor(Flight f) {
        if (f.wish != null && holderOf(f.wish) == null) {
            return f.wish;
        }
        for (int size = f.kind().size; size <= 3; size++) {
            for (int s = 0; s < stands.size(); s++) {
                if (stands.get(s) == size && holderOf(s) == null) {
                    return s;
                }
            }
        }
        return null;
    }

    void one() {
        changeStates();
        acts();
        bags();
        for (Flight f : flights) {
            if (f.state.equals("STANDS")) {
                begin(f);
            }
        }
        for (Flight f : flights) {
            if (f.state.equals("WAITS") && waitsForIce(f) && !f.under.containsKey("ICE") && busy(4) < set[4]) {
                f.under.put("ICE", f.kind().ticks.get("ICE"));
            }
        }
        for (int r = 0; r < (set[5] == 1 ? 1 : set[8]); r++) {
            runway(r);
        }
        for (Flight f : flights) {
            if (at(STATES, f.state) <= 5 && tick >= f.etd) {
                f.causes.merge(cause(f), 1, Integer::sum);
            }
        }
        tick++;
    }

    void changeStates() {
        for (Flight f : flights) {
            if (f.state.equals("DUE") && f.eta + f.late <= tick) {
                state(f, "HOLDS");
            } else if (f.state.equals("HOLDS") && stood(f) == 60) {
                state(f, "WENT");
            } else if (f.state.equals("LANDS") && stood(f) == f.kind().roll) {
                state(f, "ROLLS");
            } else if (f.state.equals("ROLLS") && stood(f) == 4) {
                state(f, "STANDS");
            } else if (f.state.equals("LEAVES") && stood(f) == f.kind().roll) {
                state(f, "GONE");
            }
        }
    }

    void acts() {
        for (Flight f : flights) {
            for (String act : ACTS) {
                if (!f.under.containsKey(act) || f.under.merge(act, -1, Integer::sum) > 0) {
                    continue;
                }
                f.under.remove(act);
                if (!f.done.contains(act)) {
                    f.done.add(act);
                }
                if (act.equals("UNLOAD")) {
                    for (Bags b : feeds) {
                        if (b.from == f.number && b.state == 0) {
                            b.state = 1;
                            b.comes = tick + b.cart;
                        }
                    }
                }
                if (act.equals("ICE")) {
                    f.iced = tick;
                }
                if (act.equals("PUSH")) {
                    f.stand = null;
                    state(f, "WAITS");
                }
            }
        }
    }

    void bags() {
        for (Bags b : feeds) {
            if (b.state > 1) {
                continue;
            }
            Flight to = flights.get(b.to);
            if (to.state.equals("WENT")) {
                b.state = 3;
            } else if (b.state == 0) {
                b.state = flights.get(b.from).state.equals("WENT") ? 3 : 0;
            } else if (b.comes <= tick) {
                b.state = to.done.contains("LOAD") ? 3 : 2;
            }
        }
    }

    void begin(Flight f) {
        Map<String, String> hindered = new HashMap<>();
        for (String act : ACTS) {
            if (f.done.contains(act) || f.under.containsKey(act) || !f.done.containsAll(AHEAD.get(act))) {
                continue;
            }
            int ticks = f.kind().ticks.get(act);
            if (ticks == 0 || act.equals("ICE") && set[6] == 0) {
                f.done.add(act);
                continue;
            }
            String hinders = hinders(f, act, ticks);
            if (hinders != null) {
                hindered.put(act, hinders);
                continue;
            }
            if (act.equals("PUSH") && tick > f.limit()) {
                set[7]--;
            }
            f.under.put(act, ticks);
        }
        for (String act : ACTS) {
            if (!f.done.contains(act)) {
                f.why = f.under.containsKey(act) ? "WORK" : hindered.get(act);
                return;
            }
        }
    }

    String hinders(Flight f, String act, int ticks) {
        if (act.equals("LOAD") && openFeedsTo(f) > 0 && tick - f.etd < Math.max(0, ask(2, f, -1))) {
            return "BAGS";
        }
        if (act.equals("PUSH") && tick < f.etd - ticks) {
            return "WORK";
        }
        Integer sort = TRUCK.get(act);
        if (sort != null && set[sort] - busy(sort) <= 0) {
            return "WANT";
        }
        return act.equals("PUSH") && tick > f.limit() && set[7] == 0 ? "CREW" : null;
    }

    void runway(int r) {
        Flight best = null;
        for (Flight f : flights) {
            if (ready(f, r) && (best == null || ask(0, f, prevs[r]) > ask(0, best, prevs[r]))) {
                best = f;
            }
        }
        if (best == null) {
            return;
        }
        if (best.state.equals("HOLDS")) {
            best.stand = standFor(best);
            state(best, "LANDS");
        } else {
            state(best, "LEAVES");
        }
        ends[r] = tick + best.kind().roll;
        prevs[r] = best.kind;
    }

    boolean ready(Flight f, int r) {
        boolean in = f.state.equals("HOLDS") && standFor(f) != null;
        boolean out = f.state.equals("WAITS") && stood(f) >= 4 && !f.under.containsKey("ICE") && !waitsForIce(f);
        if (!in && !out || tick < ends[r]) {
            return false;
        }
        return prevs[r] == -1 || tick - ends[r] >= Math.max(0, ask(1, f, prevs[r]));
    }

    String cause(Flight f) {
        String runway = set[5] == 1 && set[8] == 2 ? "FOG" : "RUNWAY";
        switch (f.state) {
            case "HOLDS":
                return standFor(f) == null ? "STAND" : runway;
            case "STANDS":
                return f.why;
            case "WAITS":
                if (f.under.containsKey("ICE") || waitsForIce(f)) {
                    return "ICE";
                }
                return stood(f) < 4 ? "WORK" : runway;
            default:
                return "ARRIVAL";
        }
    }

    int lateTicks() {
        return flights.stream().mapToInt(Flight::lateTicks).sum();
    }

    int missed() {
        return feeds.stream().filter(b -> b.state == 3).mapToInt(b -> b.bags).sum();
    }

    int in(String state) {
        return (int) flights.stream().filter(f -> f.state.equals(state)).count();
    }

    // ---- the calls

    boolean no(int v) {
        return v < 0 || v >= flights.size();
    }

    boolean out(int n, int least, int most) {
        return n < least || n > most;
    }

    int stand(int size) {
        if (out(size, 1, 3)) {
            return -2;
        }
        if (stands.size() == 6) {
            return -4;
        }
        stands.add(size);
        return stands.size() - 1;
    }

    int set(int what, int v) {
        if (out(what, 0, 8) || out(v, what == 8 ? 1 : 0, what == 8 ? 2 : what == 5 || what == 6 ? 1 : 9)) {
            return -2;
        }
        if (what < 5 && v < busy(what)) {
            return -3;
        }
        int was = set[what];
        set[what] = v;
        return was;
    }

    int visit(int kind, int eta, int etd, int crew) {
        if (out(kind, 0, 5) || out(eta, tick, 9999) || etd <= eta || etd > 9999 || out(crew, 1, 999)) {
            return -2;
        }
        if (flights.size() == 12) {
            return -4;
        }
        Flight f = new Flight();
        f.number = flights.size();
        f.kind = kind;
        f.eta = eta;
        f.etd = etd;
        f.crew = crew;
        f.since = tick;
        flights.add(f);
        return f.number;
    }

    int late(int v, int ticks) {
        if (no(v)) {
            return -1;
        }
        if (out(ticks, 0, 999)) {
            return -2;
        }
        Flight f = flights.get(v);
        if (!f.state.equals("DUE")) {
            return -3;
        }
        int was = f.late;
        f.late = ticks;
        return was;
    }

    int wish(int v, int s) {
        if (no(v) || out(s, -1, stands.size() - 1)) {
            return -1;
        }
        Flight f = flights.get(v);
        if (s >= 0 && stands.get(s) < f.kind().size) {
            return -2;
        }
        if (at(STATES, f.state) > 1) {
            return -3;
        }
        int was = f.wish == null ? 6 : f.wish;
        f.wish = s < 0 ? null : s;
        return was;
    }

    int feed(int from, int to, int bags, int cart) {
        if (no(from) || no(to)) {
            return -1;
        }
        if (from == to || out(bags, 1, 99) || out(cart, 1, 99)) {
            return -2;
        }
        if (!flights.get(from).state.equals("DUE") || !flights.get(to).state.equals("DUE")) {
            return -3;
        }
        if (feeds.size() == 16) {
            return -4;
        }
        Bags b = new Bags();
        b.from = from;
        b.to = to;
        b.bags = bags;
        b.cart = cart;
        feeds.add(b);
        return feeds.size() - 1;
    }

    int run(int n) {
        if (out(n, 1, 200)) {
            return -2;
        }
        if (tick + n > 9999) {
            return -4;
        }
        for (int i = 0; i < n; i++) {
            one();
        }
        return tick;
    }

    int visitTold(int v, int what) {
        if (no(v)) {
            return -1;
        }
        if (out(what, 0, 10)) {
            return -2;
        }
        Flight f = flights.get(v);
        int done = f.done.stream().mapToInt(a -> 1 << at(ACTS, a)).sum();
        int under = f.under.keySet().stream().mapToInt(a -> 1 << at(ACTS, a)).sum();
        int[] all = {f.kind, at(STATES, f.state), f.since, f.stand == null ? -1 : f.stand, f.eta + f.late, f.etd, done,
            f.lateTicks(), under, f.wish == null ? -1 : f.wish, f.limit()};
        return all[what];
    }

    int cause(int v, int c) {
        if (no(v)) {
            return -1;
        }
        return out(c, 0, 8) ? -2 : flights.get(v).causes.getOrDefault(CAUSES[c], 0);
    }

    int feedTold(int f, int what) {
        if (out(f, 0, feeds.size() - 1)) {
            return -1;
        }
        Bags b = feeds.get(f);
        return out(what, 0, 4) ? -2 : List.of(b.from, b.to, b.bags, b.state, b.comes).get(what);
    }

    int standTold(int s, int what) {
        if (out(s, 0, stands.size() - 1)) {
            return -3;
        }
        Flight f = holderOf(s);
        return out(what, 0, 1) ? -2 : what == 0 ? stands.get(s) : f == null ? -1 : f.number;
    }

    int runwayTold(int r, int what) {
        if (out(r, 0, 1)) {
            return -3;
        }
        return out(what, 0, 1) ? -2 : what == 0 ? ends[r] : prevs[r];
    }

    int ticks(int kind, int act) {
        return out(kind, 0, 5) || out(act, 0, 7) ? -2 : KINDS.get(kind).ticks.get(ACTS[act]);
    }

    int kindTold(int kind, int what) {
        return out(kind, 0, 5) || out(what, 0, 1) ? -2 : what == 0 ? KINDS.get(kind).size : KINDS.get(kind).roll;
    }

    int trucks(int sort, int what) {
        return out(sort, 0, 4) ? -3 : out(what, 0, 1) ? -2 : what == 0 ? set[sort] : busy(sort);
    }

    int beside(int n, int what) {
        if (out(n, 1, 200) || out(what, 0, 4)) {
            return -2;
        }
        if (tick + n > 9999) {
            return -4;
        }
        PlainPort p = same();
        p.run(n);
        return List.of(p.lateTicks(), p.in("GONE"), p.in("WENT"), p.missed(), p.set[7]).get(what);
    }

    int plan(int bits, int n) {
        List<Integer> who = new ArrayList<>();
        for (int b = 0; b < 32; b++) {
            if ((bits >>> b & 1) == 1) {
                if (no(b)) {
                    return -1;
                }
                who.add(b);
            }
        }
        if (who.isEmpty()) {
            return -1;
        }
        if (who.size() > 2 || out(n, 1, 40)) {
            return -2;
        }
        for (int v : who) {
            if (at(STATES, flights.get(v).state) > 1) {
                return -3;
            }
        }
        if (tick + n > 9999) {
            return -4;
        }
        List<List<Integer>> best = new ArrayList<>();
        int[] fewest = {Integer.MAX_VALUE};
        tryRows(who, new ArrayList<>(), n, best, fewest);
        kept.clear();
        for (int i = 0; i < who.size(); i++) {
            kept.put(who.get(i), best.get(0).get(i));
        }
        return fewest[0];
    }

    private void tryRows(List<Integer> who, List<Integer> row, int n, List<List<Integer>> best, int[] fewest) {
        if (row.size() < who.size()) {
            Flight f = flights.get(who.get(row.size()));
            for (int s = -1; s < stands.size(); s++) {
                if (s < 0 || stands.get(s) >= f.kind().size) {
                    List<Integer> longer = new ArrayList<>(row);
                    longer.add(s);
                    tryRows(who, longer, n, best, fewest);
                }
            }
            return;
        }
        PlainPort p = same();
        for (int i = 0; i < row.size(); i++) {
            p.flights.get(who.get(i)).wish = row.get(i) < 0 ? null : row.get(i);
        }
        p.run(n);
        if (p.lateTicks() < fewest[0]) {
            fewest[0] = p.lateTicks();
            best.clear();
            best.add(row);
        }
    }

    int planned(int v) {
        return kept.getOrDefault(v, -3);
    }

    int settle() {
        for (int v : kept.keySet()) {
            if (at(STATES, flights.get(v).state) > 1) {
                return -3;
            }
        }
        kept.forEach((v, s) -> flights.get(v).wish = s < 0 ? null : s);
        return kept.size();
    }

    int estimate(int v, int eta) {
        if (no(v)) {
            return -1;
        }
        if (out(eta, 0, 9999)) {
            return -2;
        }
        if (estimates.size() == 40) {
            return -4;
        }
        estimates.add(new int[] {v, eta, tick});
        return estimates.size() - 1;
    }

    int there(int v, int known) {
        int eta = flights.get(v).eta;
        for (int[] e : estimates) {
            if (e[0] == v && e[2] <= known) {
                eta = e[1];
            }
        }
        return eta + flights.get(v).kind().roll + 4;
    }

    int expects(int v, int known) {
        if (no(v)) {
            return -1;
        }
        if (out(known, 0, tick)) {
            return -2;
        }
        return Math.max(flights.get(v).etd, there(v, known) + flights.get(v).kind().way("PUSH", set[6] == 1));
    }

    int misses(int v, int known) {
        if (no(v)) {
            return -1;
        }
        if (out(known, 0, tick)) {
            return -2;
        }
        Flight f = flights.get(v);
        int loaded = there(v, known) + f.kind().way("LOAD", false);
        int last = Math.max(f.etd - f.kind().ticks.get("PUSH"), loaded);
        return feeds.stream().filter(b -> b.to == v)
            .filter(b -> there(b.from, known) + flights.get(b.from).kind().way("UNLOAD", false) + b.cart > last)
            .mapToInt(b -> b.bags).sum();
    }

    int feedTape(long w, int n) {
        if (out(n, 1, 8)) {
            return -2;
        }
        if (tape.size() + n > 160) {
            return -4;
        }
        for (int i = n - 1; i >= 0; i--) {
            tape.add((int) (w >>> 8 * i & 0xff));
        }
        return tape.size();
    }

    int text() {
        if (texts.size() == 6) {
            return -4;
        }
        PlainText t = new PlainText(new ArrayList<>(tape));
        tape.clear();
        if (t.fault >= 0) {
            return -100 - t.fault;
        }
        texts.add(t);
        return texts.size() - 1;
    }

    int force(int t) {
        if (out(t, 0, texts.size() - 1)) {
            return -2;
        }
        int was = texts.indexOf(rule);
        rule = texts.get(t);
        return was;
    }

    long tells(int v, int part) {
        return no(v) || out(part, 0, 2) ? -4611686018427387904L : ask(part, flights.get(v), -1);
    }

    int count(int what) {
        if (out(what, 0, 13)) {
            return -2;
        }
        int[] all = {tick, flights.size(), stands.size(), feeds.size(), texts.size(), texts.indexOf(rule), tape.size(),
            estimates.size(), lateTicks(), missed(), set[7], set[5], set[6], set[8]};
        return all[what];
    }

    int sheet(int s, int sort, int n) {
        if (out(s, 0, 3) || out(sort, -1, 2) || sort >= 0 && n > 40) {
            return -2;
        }
        if (sort >= 0 && n < 0) {
            return -14;
        }
        rows[s] = sort < 0 ? null : new long[n];
        sorts[s] = sort;
        return 1;
    }

    int cell(int s, int i, int v) {
        if (out(s, 0, 3)) {
            return -2;
        }
        if (rows[s] == null) {
            return -11;
        }
        if (out(i, 0, rows[s].length - 1)) {
            return -12;
        }
        rows[s][i] = sorts[s] == 0 ? (v << 24) >> 24 : sorts[s] == 1 ? (v << 16) >> 16 : v;
        return 1;
    }

    int copy(int s, int i, int other, int j, int n) {
        if (out(s, 0, 3) || out(other, 0, 3)) {
            return -2;
        }
        if (rows[s] == null || rows[other] == null) {
            return -11;
        }
        if (sorts[s] != sorts[other]) {
            return -13;
        }
        if (n < 0 || i < 0 || j < 0 || (long) i + n > rows[s].length || (long) j + n > rows[other].length) {
            return -12;
        }
        long[] were = rows[s].clone();
        for (int k = 0; k < n; k++) {
            rows[other][j + k] = were[i + k];
        }
        return n;
    }

    int visits(int s, int sort, int from, int n) {
        if (out(s, 0, 3) || out(sort, 0, 2) || out(n, 0, 10)) {
            return -2;
        }
        if (rows[s] == null) {
            return -11;
        }
        if (sorts[s] != sort) {
            return -13;
        }
        int came = 0;
        long place = from;
        for (int k = 0; k < n; k++) {
            int[] four = new int[4];
            for (int i = 0; i < 4; i++, place++) {
                if (place < 0 || place >= rows[s].length) {
                    return -12;
                }
                four[i] = (int) rows[s][(int) place];
            }
            came += visit(four[0], four[1], four[2], four[3]) >= 0 ? 1 : 0;
        }
        return came;
    }

    int taken(int v, int kind) {
        if (out(kind, 0, 5)) {
            return -2;
        }
        if (no(v)) {
            return -11;
        }
        Kind own = flights.get(v).kind();
        return own.isOne(KINDS.get(kind)) ? own.size : -13;
    }
}
