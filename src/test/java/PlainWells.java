import java.math.BigInteger;
import java.util.ArrayList;
import java.util.Arrays;
import java.util.HashMap;
import java.util.LinkedHashSet;
import java.util.List;
import java.util.Map;
import java.util.Set;

/** The document once more, in the plainest and slowest form: hour by hour, and all rows of stands tried. */
final class PlainWells {
    private static final int NONE = -1, BAD = -2, STATE = -3, FULL = -4, NOT = -5;
    private static final int NOTHING = -11, CAST = -12, PLACE = -13, SIZE = -14;
    private static final long NO = Long.MIN_VALUE;
    private static final int[] ABOVE = {-1, 0, 0, 0, 1, 1, 2};

    // ---- the text

    interface Test {
        boolean holds(int h, int b, int w);
    }

    record Drink(int n, Test test) {
    }

    record Waste(List<int[]> wells, List<Integer> ways, int carry, int load, int stand, List<Drink> drinks) {
        int way(int k) {
            return k < ways.size() ? Math.max(1, ways.get(k)) : 3;
        }

        int drunk(int way, int hour, int beasts) {
            int sum = 0;
            for (Drink d : drinks) {
                sum += d.test.holds(hour % 24, beasts, way) ? d.n : 0;
            }
            return sum;
        }
    }

    /** A grammar: each sign from (char) 1000 on stands for one of several rows of signs. */
    private static final Map<Character, String[]> GRAMMAR = new HashMap<>();
    private static final char CLAUSE = 1000, NUMBER = 1001, DIGIT = 1002, TEST = 1003, ASKED = 1004, SIGN = 1005;
    private static final char REST = 1100, EITHER = 1200, OR = 1210, BOTH = 1220, AND = 1230, PART = 1240;

    static {
        GRAMMAR.put(CLAUSE, new String[] {"well " + NUMBER + " " + NUMBER, "way " + DIGIT,
            "drink " + NUMBER + " " + EITHER, "carry " + NUMBER, "load " + NUMBER, "stand " + NUMBER});
        GRAMMAR.put(NUMBER, new String[] {"" + DIGIT, "" + DIGIT + DIGIT});
        GRAMMAR.put(DIGIT, "0,1,2,3,4,5,6,7,8,9".split(","));
        GRAMMAR.put(TEST, new String[] {"" + ASKED + SIGN + NUMBER});
        GRAMMAR.put(ASKED, new String[] {"h", "b", "w"});
        GRAMMAR.put(SIGN, new String[] {"<", "=", ">"});
        GRAMMAR.put(REST, new String[] {""});
        for (int more = 1; more <= 11; more++) {
            GRAMMAR.put((char) (REST + more), new String[] {"", ";" + CLAUSE + (char) (REST + more - 1)});
        }
        for (int d = 0; d <= 4; d++) {
            GRAMMAR.put((char) (EITHER + d), new String[] {"" + (char) (BOTH + d) + (char) (OR + d)});
            GRAMMAR.put((char) (OR + d), new String[] {"", "|" + (char) (BOTH + d) + (char) (OR + d)});
            GRAMMAR.put((char) (BOTH + d), new String[] {"" + (char) (PART + d) + (char) (AND + d)});
            GRAMMAR.put((char) (AND + d), new String[] {"", "&" + (char) (PART + d) + (char) (AND + d)});
            GRAMMAR.put((char) (PART + d), d == 4 ? new String[] {"" + TEST}
                : new String[] {"" + TEST, "!" + (char) (PART + d + 1), "(" + (char) (EITHER + d + 1) + ")"});
        }
    }

    /** All that may come, with a sign that stands for itself in front, or nothing at all. */
    private static Set<String> open(Set<String> rows) {
        Set<String> found = new LinkedHashSet<>();
        List<String> todo = new ArrayList<>(rows);
        while (!todo.isEmpty()) {
            String row = todo.remove(todo.size() - 1);
            if (row.isEmpty() || row.charAt(0) < 1000) {
                found.add(row);
            } else {
                for (String one : GRAMMAR.get(row.charAt(0))) {
                    todo.add(one + row.substring(1));
                }
            }
        }
        return found;
    }

    /** -1: the text is a waste. */
    static int fault(String text) {
        Set<String> rows = open(Set.of("" + CLAUSE + (char) (REST + 11)));
        for (int i = 0; i < text.length(); i++) {
            Set<String> next = new LinkedHashSet<>();
            for (String row : rows) {
                if (!row.isEmpty() && row.charAt(0) == text.charAt(i)) {
                    next.add(row.substring(1));
                }
            }
            if (next.isEmpty()) {
                return i;
            }
            rows = open(next);
        }
        return rows.contains("") ? -1 : text.length();
    }

    /** The parts between signs that stand within no ( and ). */
    private static List<String> split(String text, char sign) {
        List<String> parts = new ArrayList<>();
        int depth = 0, from = 0;
        for (int i = 0; i < text.length(); i++) {
            char c = text.charAt(i);
            depth += c == '(' ? 1 : c == ')' ? -1 : 0;
            if (c == sign && depth == 0) {
                parts.add(text.substring(from, i));
                from = i + 1;
            }
        }
        parts.add(text.substring(from));
        return parts;
    }

    private static Test test(String text) {
        List<String> ors = split(text, '|'), ands = split(text, '&');
        if (ors.size() > 1) {
            List<Test> tests = ors.stream().map(PlainWells::test).toList();
            return (h, b, w) -> tests.stream().anyMatch(t -> t.holds(h, b, w));
        }
        if (ands.size() > 1) {
            List<Test> tests = ands.stream().map(PlainWells::test).toList();
            return (h, b, w) -> tests.stream().allMatch(t -> t.holds(h, b, w));
        }
        if (text.charAt(0) == '!') {
            Test of = test(text.substring(1));
            return (h, b, w) -> !of.holds(h, b, w);
        }
        if (text.charAt(0) == '(') {
            return test(text.substring(1, text.length() - 1));
        }
        char asked = text.charAt(0), sign = text.charAt(1);
        int n = Integer.parseInt(text.substring(2));
        return (h, b, w) -> {
            int value = asked == 'h' ? h : asked == 'b' ? b : w;
            return sign == '<' ? value < n : sign == '=' ? value == n : value > n;
        };
    }

    private static Waste parse(String text) {
        List<int[]> wells = new ArrayList<>();
        List<Integer> ways = new ArrayList<>();
        List<Drink> drinks = new ArrayList<>();
        int carry = 10, load = 1, stand = 0;
        for (String clause : text.split(";")) {
            String[] parts = clause.split(" ");
            int n = Integer.parseInt(parts[1]);
            switch (parts[0]) {
                case "well" -> {
                    if (wells.size() < 5) {
                        wells.add(new int[] {n, Integer.parseInt(parts[2])});
                    }
                }
                case "way" -> ways.add(n);
                case "drink" -> drinks.add(new Drink(n, test(parts[2])));
                case "carry" -> carry = n;
                case "load" -> load = n;
                default -> stand = n;
            }
        }
        return new Waste(wells, ways, carry, load, stand, drinks);
    }

    // ---- state

    record Rule(int kind, int i, int v, List<Integer> row) {
    }

    record Caravan(int beasts, int start, Rule rule) {
    }

    /** What a well held when somebody drew last, and when that was. */
    record Well(int full, int gives, int held, int last) {
        int at(int hour) {
            int now = held;
            for (int h = last; h < hour; h++) {
                now = Math.min(full, now + gives);
            }
            return now;
        }
    }

    record Scene(Waste waste, List<Well> wells, List<Integer> odds, List<Integer> several, List<Integer> hand) {
    }

    private final StringBuilder text = new StringBuilder();
    private final List<Waste> wastes = new ArrayList<>();
    private final List<Rule> rules = new ArrayList<>();
    private final List<Caravan> caravans = new ArrayList<>();
    private Waste waste = null;
    private List<Well> wells = new ArrayList<>();
    private List<Integer> odds = new ArrayList<>(List.of(0, 0, 0, 0, 0));
    private List<Integer> several = new ArrayList<>();
    private List<Integer> hand = new ArrayList<>();
    private Scene kept = null;
    private final List<Integer> trace = new ArrayList<>();
    private final long[][] tapes = new long[6][];
    private final int[] sorts = new int[6];

    private static boolean in(int n, int from, int to) {
        return from <= n && n <= to;
    }

    private static boolean is(int n, List<?> list) {
        return in(n, 0, list.size() - 1);
    }

    private static List<Well> full(Waste waste) {
        List<Well> wells = new ArrayList<>();
        for (int[] w : waste.wells) {
            wells.add(new Well(w[0], w[1], w[0], 0));
        }
        return wells;
    }

    // ---- trips

    static final class Trip {
        int over = NOT, lost = NOT;
        int[] stood = {NOT, NOT, NOT, NOT, NOT}, came = {NOT, NOT, NOT, NOT, NOT};
    }

    /** Draws from the wells given. stands null: as the rule says. */
    private static Trip go(Waste waste, List<Well> wells, Caravan c, List<Integer> stands) {
        Trip trip = new Trip();
        int can = waste.carry * c.beasts, water = can, hour = c.start;
        for (int k = 0; k <= waste.wells.size(); k++) {
            for (int i = 0; i < waste.way(k); i++) {
                water -= waste.drunk(k, hour, c.beasts) * c.beasts;
                hour++;
                if (water < 0) {
                    trip.lost = k;
                    return trip;
                }
            }
            if (k == waste.wells.size()) {
                break;
            }
            trip.came[k] = water;
            trip.lost = k + 1;
            while (hour < wells.get(k).last) {
                water -= waste.stand * c.beasts;
                hour++;
                if (water < 0) {
                    return trip;
                }
            }
            int stand = stands == null ? stand(wells.get(k), c.rule, k, hour, water, can)
                : k < stands.size() ? stands.get(k) : 0;
            trip.stood[k] = stand;
            for (int i = 0; i < stand; i++) {
                water -= waste.stand * c.beasts;
                hour++;
                if (water < 0) {
                    return trip;
                }
            }
            Well w = wells.get(k);
            int drawn = 0;
            while (drawn < w.at(hour) && water < can) {
                drawn++;
                water++;
            }
            wells.set(k, new Well(w.full, w.gives, w.at(hour) - drawn, hour));
            trip.lost = NOT;
        }
        trip.over = hour;
        return trip;
    }

    private static int stand(Well w, Rule r, int k, int hour, int water, int can) {
        int s = 0;
        switch (r.kind) {
            case 1, 4:
                while (s < r.v && w.at(hour + s) < can - water) {
                    s++;
                }
                return r.kind == 4 ? Math.min(6, s + 1) : s;
            case 2, 6:
                if (r.kind == 6 && water < can / 2.0) {
                    return 0;
                }
                while (s < r.v && (hour + s) % 24 < 12) {
                    s++;
                }
                return s;
            case 3:
                return k < r.row.size() ? r.row.get(k) : 0;
            default:
                return 0;
        }
    }

    /** The first row of stands with the earliest hour; null: none comes over. */
    private static List<Integer> best(Waste waste, List<Well> wells, Caravan c) {
        int n = waste.wells.size(), all = 1, earliest = NOT;
        for (int k = 0; k < n; k++) {
            all *= 7;
        }
        List<Integer> best = null;
        for (int number = 0; number < all; number++) {
            Integer[] row = new Integer[n];
            for (int k = n - 1, rest = number; k >= 0; k--, rest /= 7) {
                row[k] = rest % 7;
            }
            int over = go(waste, new ArrayList<>(wells), c, Arrays.asList(row)).over;
            if (over != NOT && (best == null || over < earliest)) {
                best = Arrays.asList(row);
                earliest = over;
            }
        }
        return best;
    }

    private static Trip goByRule(Waste waste, List<Well> wells, Caravan c) {
        if (c.rule.kind != 5) {
            return go(waste, wells, c, null);
        }
        List<Integer> row = best(waste, wells, c);
        return go(waste, wells, c, row == null ? List.of() : row);
    }

    private static int worth(Waste waste, Caravan c, Trip t) {
        return t.over == NOT ? 0 : waste.load * c.beasts;
    }

    // ---- the calls

    int feed(int bytes, int n) {
        if (!in(n, 0, 4)) {
            return BAD;
        }
        if (text.length() + n > 100) {
            return FULL;
        }
        for (int i = 4 - n; i < 4; i++) {
            text.append((char) (bytes >>> (24 - 8 * i) & 255));
        }
        return text.length();
    }

    int waste() {
        if (wastes.size() == 5) {
            return FULL;
        }
        String read = text.toString();
        text.setLength(0);
        int fault = fault(read);
        if (fault >= 0) {
            return -10 - fault;
        }
        waste = parse(read);
        wastes.add(waste);
        wells = full(waste);
        return wastes.size() - 1;
    }

    int of(int what) {
        if (!(in(what, 0, 3) || in(what, 10, 14) || in(what, 20, 24) || in(what, 30, 35))) {
            return NONE;
        }
        if (waste == null) {
            return STATE;
        }
        int n = waste.wells.size(), k = what % 10;
        if (what < 10) {
            return what == 0 ? n : what == 1 ? waste.carry : what == 2 ? waste.load : waste.stand;
        }
        if (what < 30) {
            return k < n ? waste.wells.get(k)[what / 10 - 1] : NONE;
        }
        return k <= n ? waste.way(k) : NONE;
    }

    int holds(int well, int hour) {
        if (!in(well, 0, 4)) {
            return NONE;
        }
        if (!in(hour, 0, 999)) {
            return BAD;
        }
        return waste == null ? STATE : is(well, wells) ? wells.get(well).at(hour) : NONE;
    }

    int drinks(int way, int hour, int beasts) {
        if (!in(way, 0, 5)) {
            return NONE;
        }
        if (!in(hour, 0, 999) || !in(beasts, 1, 9)) {
            return BAD;
        }
        return waste == null ? STATE : way <= waste.wells.size() ? waste.drunk(way, hour, beasts) : NONE;
    }

    int odds(int well, int n) {
        if (!in(well, 0, 4)) {
            return NONE;
        }
        return in(n, 0, 10) ? odds.set(well, n) : BAD;
    }

    int ever(int hour) {
        if (!in(hour, 0, 999)) {
            return BAD;
        }
        if (waste == null) {
            return STATE;
        }
        int sum = 0;
        for (Well w : full(waste)) {
            for (int h = 0; h <= hour; h++) {
                sum += w.at(h);
                w = new Well(w.full, w.gives, 0, h);
            }
        }
        return sum;
    }

    int rule(int kind, int v) {
        if (!in(kind, 0, 6)) {
            return NONE;
        }
        if (!in(v, 0, 6)) {
            return BAD;
        }
        if (rules.size() == 10) {
            return FULL;
        }
        rules.add(new Rule(kind, rules.size(), v, new ArrayList<>()));
        return rules.size() - 1;
    }

    int row(int rule, int n) {
        if (!is(rule, rules)) {
            return NONE;
        }
        if (!in(n, 0, 6)) {
            return BAD;
        }
        Rule r = rules.get(rule);
        if (r.kind != 3) {
            return STATE;
        }
        if (r.row.size() == 5) {
            return FULL;
        }
        r.row.add(n);
        return r.row.size();
    }

    int caravan(int beasts, int start, int rule) {
        if (!is(rule, rules)) {
            return NONE;
        }
        if (!in(beasts, 1, 9) || !in(start, 0, 99)) {
            return BAD;
        }
        if (caravans.size() == 6) {
            return FULL;
        }
        caravans.add(new Caravan(beasts, start, rules.get(rule)));
        return caravans.size() - 1;
    }

    private static boolean asked(int what) {
        return in(what, 0, 2) || in(what, 10, 14) || in(what, 20, 24);
    }

    private int told(Trip t, Caravan c, int what) {
        if (what >= 10 && what % 10 >= wells.size()) {
            return NONE;
        }
        return what == 0 ? t.over : what == 1 ? t.lost : what == 2 ? worth(waste, c, t)
            : what < 20 ? t.stood[what - 10] : t.came[what - 20];
    }

    int would(int caravan, int what) {
        if (!is(caravan, caravans) || !asked(what)) {
            return NONE;
        }
        if (waste == null) {
            return STATE;
        }
        Caravan c = caravans.get(caravan);
        return told(goByRule(waste, new ArrayList<>(wells), c), c, what);
    }

    int goes(int caravan) {
        if (!is(caravan, caravans)) {
            return NONE;
        }
        return waste == null ? STATE : goByRule(waste, wells, caravans.get(caravan)).over;
    }

    int hand(int n) {
        if (n == -1) {
            hand = new ArrayList<>();
            return 0;
        }
        if (!in(n, 0, 6)) {
            return BAD;
        }
        if (hand.size() == 5) {
            return FULL;
        }
        hand.add(n);
        return hand.size();
    }

    int gone(int caravan, int what) {
        if (!is(caravan, caravans) || !asked(what)) {
            return NONE;
        }
        if (waste == null) {
            return STATE;
        }
        Caravan c = caravans.get(caravan);
        return told(go(waste, new ArrayList<>(wells), c, hand), c, what);
    }

    int size(int start, int rule, int what) {
        if (!is(rule, rules) || !in(what, 0, 1)) {
            return NONE;
        }
        if (!in(start, 0, 99)) {
            return BAD;
        }
        if (waste == null) {
            return STATE;
        }
        int size = 0, most = -1, edge = 0;
        for (int b = 9; b >= 1; b--) {
            Caravan c = new Caravan(b, start, rules.get(rule));
            Trip t = goByRule(waste, new ArrayList<>(wells), c);
            edge = t.over == NOT ? b : edge;
            if (t.over != NOT && worth(waste, c, t) >= most) {
                size = b;
                most = worth(waste, c, t);
            }
        }
        return what == 0 ? size : edge;
    }

    int several(int caravan) {
        if (caravan == -1) {
            several = new ArrayList<>();
            return 0;
        }
        if (!is(caravan, caravans)) {
            return NONE;
        }
        if (several.size() == 3) {
            return FULL;
        }
        several.add(caravan);
        return several.size();
    }

    /** WORTH, the hour of the last, then each one's hour. */
    private int[] inOrder(List<Integer> order) {
        int[] came = {0, NOT, NOT, NOT, NOT};
        List<Well> at = new ArrayList<>(wells);
        for (int place : order) {
            Caravan c = caravans.get(several.get(place));
            Trip t = goByRule(waste, at, c);
            came[0] += worth(waste, c, t);
            came[1] = Math.max(came[1], t.over);
            came[2 + place] = t.over;
        }
        return came;
    }

    private static void orders(int n, List<Integer> begun, List<List<Integer>> found) {
        if (begun.size() == n) {
            found.add(List.copyOf(begun));
        }
        for (int i = 0; i < n; i++) {
            if (!begun.contains(i)) {
                begun.add(i);
                orders(n, begun, found);
                begun.remove(begun.size() - 1);
            }
        }
    }

    int all(int what) {
        if (!(in(what, 0, 5) || in(what, 10, 9 + several.size()))) {
            return NONE;
        }
        if (waste == null) {
            return STATE;
        }
        List<List<Integer>> orders = new ArrayList<>();
        orders(several.size(), new ArrayList<>(), orders);
        int[] asTheyCome = inOrder(orders.get(0));
        if (what < 2 || what >= 10) {
            return asTheyCome[what < 2 ? what : what - 8];
        }
        orders.sort((a, b) -> {
            int[] x = inOrder(a), y = inOrder(b);
            int late = 1000000;
            return x[0] != y[0] ? y[0] - x[0] : (x[1] == NOT ? late : x[1]) - (y[1] == NOT ? late : y[1]);
        });
        if (what == 5) {
            return inOrder(orders.get(0))[0];
        }
        return what - 2 < several.size() ? orders.get(0).get(what - 2) : NOT;
    }

    long likely(int caravan, int part) {
        if (!is(caravan, caravans) || !in(part, 0, 1) || waste == null) {
            return NO;
        }
        BigInteger over = chance(0, new ArrayList<>(), caravans.get(caravan));
        BigInteger whole = BigInteger.TEN.pow(wells.size()), shared = over.gcd(whole);
        return (part == 0 ? over : whole).divide(shared).longValue();
    }

    private BigInteger chance(int k, List<Well> at, Caravan c) {
        if (k == wells.size()) {
            return goByRule(waste, new ArrayList<>(at), c).over == NOT ? BigInteger.ZERO : BigInteger.ONE;
        }
        BigInteger sum = BigInteger.ZERO;
        int dry = odds.get(k);
        if (dry < 10) {
            at.add(wells.get(k));
            sum = sum.add(chance(k + 1, at, c).multiply(BigInteger.valueOf(10 - dry)));
            at.remove(k);
        }
        if (dry > 0) {
            at.add(new Well(0, 0, 0, wells.get(k).last));
            sum = sum.add(chance(k + 1, at, c).multiply(BigInteger.valueOf(dry)));
            at.remove(k);
        }
        return sum;
    }

    int dig(int caravan, int f, int g, int what) {
        if (!is(caravan, caravans) || !in(what, 0, 1)) {
            return NONE;
        }
        if (!in(f, 0, 99) || !in(g, 0, 99)) {
            return BAD;
        }
        if (waste == null) {
            return STATE;
        }
        int place = NOT, earliest = NOT;
        for (int way = 0; way <= waste.wells.size() && waste.wells.size() < 5; way++) {
            for (int h = 1; h < waste.way(way); h++) {
                List<int[]> dug = new ArrayList<>(waste.wells);
                dug.add(way, new int[] {f, g});
                List<Integer> ways = new ArrayList<>();
                for (int k = 0; k <= waste.wells.size(); k++) {
                    ways.add(waste.way(k));
                }
                ways.set(way, h);
                ways.add(way + 1, waste.way(way) - h);
                Waste with = new Waste(dug, ways, waste.carry, waste.load, waste.stand, waste.drinks);
                Caravan c = caravans.get(caravan);
                int over = goByRule(with, full(with), new Caravan(c.beasts, c.start, new Rule(5, 0, 0, null))).over;
                if (over != NOT && (place == NOT || over < earliest)) {
                    place = 100 * way + h;
                    earliest = over;
                }
            }
        }
        return what == 0 ? place : earliest;
    }

    int judge(int tape, int i, int caravan) {
        if (!in(tape, 0, 5) || !is(caravan, caravans)) {
            return NONE;
        }
        if (waste == null) {
            return STATE;
        }
        long[] items = tapes[tape];
        if (items != null && sorts[tape] != 2) {
            return CAST;
        }
        Caravan c = caravans.get(caravan);
        List<Integer> told = new ArrayList<>();
        for (int k = 0; k <= wells.size(); k++) {
            Trip t = go(waste, new ArrayList<>(wells), c, told);
            if (t.lost == k || k == wells.size()) {
                return t.lost;
            }
            if (items == null || i < 0 || (long) i + k >= items.length) {
                return 100 + k + 1;
            }
            if (items[i + k] < 0 || items[i + k] > 6) {
                return k;
            }
            told.add((int) items[i + k]);
        }
        throw new IllegalStateException();
    }

    int image() {
        kept = new Scene(waste, List.copyOf(wells), List.copyOf(odds), List.copyOf(several), List.copyOf(hand));
        return several.size();
    }

    int undo() {
        if (kept == null) {
            return STATE;
        }
        waste = kept.waste;
        wells = new ArrayList<>(kept.wells);
        odds = new ArrayList<>(kept.odds);
        several = new ArrayList<>(kept.several);
        hand = new ArrayList<>(kept.hand);
        return several.size();
    }

    /** The kinds as classes, so that Java itself looks for the bodies. */
    private static class PlainKind {
        final int i, v;
        final List<Integer> trace;

        PlainKind(int i, int v, List<Integer> trace) {
            this.i = i;
            this.v = v;
            this.trace = trace;
        }

        int stands(int x) {
            trace.add(10);
            return x + i;
        }

        int draws(int x) {
            trace.add(11);
            return stands(x) - v;
        }

        int tells(int x) {
            trace.add(12);
            return draws(x) * 2;
        }
    }

    private static class WaitKind extends PlainKind {
        WaitKind(int i, int v, List<Integer> trace) {
            super(i, v, trace);
        }

        @Override
        int draws(int x) {
            trace.add(20);
            return super.draws(x) ^ 6;
        }
    }

    private static class NightKind extends PlainKind {
        NightKind(int i, int v, List<Integer> trace) {
            super(i, v, trace);
        }

        @Override
        int stands(int x) {
            trace.add(30);
            return super.stands(x * 3);
        }
    }

    private static class ToldKind extends PlainKind {
        ToldKind(int i, int v, List<Integer> trace) {
            super(i, v, trace);
        }

        @Override
        int tells(int x) {
            trace.add(40);
            return super.tells(x) + draws(1);
        }
    }

    private static class LongKind extends WaitKind {
        LongKind(int i, int v, List<Integer> trace) {
            super(i, v, trace);
        }

        @Override
        int stands(int x) {
            trace.add(50);
            return -super.stands(x);
        }

        @Override
        int draws(int x) {
            trace.add(51);
            return super.draws(x + 1);
        }
    }

    private static class BestKind extends WaitKind {
        BestKind(int i, int v, List<Integer> trace) {
            super(i, v, trace);
        }

        @Override
        int tells(int x) {
            trace.add(60);
            return super.tells(x - i);
        }
    }

    private static class DarkKind extends NightKind {
        DarkKind(int i, int v, List<Integer> trace) {
            super(i, v, trace);
        }

        @Override
        int draws(int x) {
            trace.add(70);
            return super.draws(x) + super.stands(2);
        }

        @Override
        int stands(int x) {
            trace.add(71);
            return super.stands(x) ^ v;
        }
    }

    int act(int rule, int act, int x) {
        trace.clear();
        if (!is(rule, rules) || !in(act, 0, 2)) {
            return 0;
        }
        Rule r = rules.get(rule);
        PlainKind kind = switch (r.kind) {
            case 0 -> new PlainKind(r.i, r.v, trace);
            case 1 -> new WaitKind(r.i, r.v, trace);
            case 2 -> new NightKind(r.i, r.v, trace);
            case 3 -> new ToldKind(r.i, r.v, trace);
            case 4 -> new LongKind(r.i, r.v, trace);
            case 5 -> new BestKind(r.i, r.v, trace);
            default -> new DarkKind(r.i, r.v, trace);
        };
        return act == 0 ? kind.stands(x) : act == 1 ? kind.draws(x) : kind.tells(x);
    }

    int trace(int i) {
        return in(i, 0, Math.min(20, trace.size()) - 1) ? trace.get(i) : NONE;
    }

    int taken(int rule, int k) {
        if (!in(k, 0, 6)) {
            return BAD;
        }
        if (!is(rule, rules)) {
            return NOTHING;
        }
        int kind = rules.get(rule).kind;
        return kind == k || ABOVE[kind] == k || ABOVE[kind] > 0 && ABOVE[ABOVE[kind]] == k ? kind : CAST;
    }

    int count(int what) {
        int[] counts = {wastes.size(), rules.size(), caravans.size(), several.size(), hand.size(), text.length(),
            trace.size()};
        return in(what, 0, 6) ? counts[what] : BAD;
    }

    int tape(int tape, int sort, int n) {
        if (!in(tape, 0, 5)) {
            return NONE;
        }
        if (sort == -1) {
            tapes[tape] = null;
            return 1;
        }
        if (!in(sort, 0, 4) || n > 60) {
            return BAD;
        }
        if (n < 0) {
            return SIZE;
        }
        tapes[tape] = new long[n];
        sorts[tape] = sort;
        return 1;
    }

    int item(int tape, int i, long v) {
        if (!in(tape, 0, 5)) {
            return NONE;
        }
        if (tapes[tape] == null) {
            return NOTHING;
        }
        if (!in(i, 0, tapes[tape].length - 1)) {
            return PLACE;
        }
        int bits = new int[] {56, 48, 32, 0, 0}[sorts[tape]];
        tapes[tape][i] = sorts[tape] == 4 ? v != 0 ? 1 : 0 : v << bits >> bits;
        return 1;
    }

    long read(int tape, int i) {
        return in(tape, 0, 5) && tapes[tape] != null && in(i, 0, tapes[tape].length - 1) ? tapes[tape][i] : NO;
    }

    int shift(int tape, int i, int other, int j, int n) {
        if (!in(tape, 0, 5) || !in(other, 0, 5)) {
            return NONE;
        }
        if (tapes[tape] == null || tapes[other] == null) {
            return NOTHING;
        }
        if (sorts[tape] != sorts[other]) {
            return CAST;
        }
        if (n < 0 || i < 0 || j < 0 || (long) i + n > tapes[tape].length || (long) j + n > tapes[other].length) {
            return PLACE;
        }
        long[] before = tapes[tape].clone();
        for (int k = 0; k < n; k++) {
            tapes[other][j + k] = before[i + k];
        }
        return n;
    }
}
