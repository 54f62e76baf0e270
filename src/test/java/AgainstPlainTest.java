import java.util.Random;

/** Random runs of calls, each answer compared with that of PlainWells. The seeds are fixed: each time the same runs. */
public final class AgainstPlainTest {
    private static int wrong = 0;

    private final Random random;
    private final SlowWells x = new SlowWells();
    private final PlainWells y = new PlainWells();
    private final StringBuilder run = new StringBuilder();
    private final int mostWells;
    private int calls;
    private boolean differs;

    private AgainstPlainTest(long seed, int mostWells) {
        random = new Random(seed);
        this.mostWells = mostWells;
    }

    public static void main(String[] args) {
        int factor = args.length > 0 ? Integer.parseInt(args[0]) : 1;
        for (int seed = 0; seed < 1500 * factor && wrong < 5; seed++) {
            new AgainstPlainTest(seed, 2).make(seed, 300);
        }
        for (int seed = 0; seed < 60 * factor && wrong < 5; seed++) {
            new AgainstPlainTest(seed + 1000000, 3).make(seed + 1000000, 200);
        }
        for (int seed = 0; seed < 4 * factor && wrong < 5; seed++) {
            new AgainstPlainTest(seed + 2000000, 5).make(seed + 2000000, 100);
        }
        for (int seed = 0; seed < 800 * factor && wrong < 5; seed++) {
            new AgainstPlainTest(seed + 3000000, 3).makeTight(seed + 3000000, 60);
        }
        faults(20000 * factor);
        System.out.println(wrong == 0 ? "no answer differs" : wrong + " runs differ");
        if (wrong != 0) {
            System.exit(1);
        }
    }

    private static void faults(int n) {
        AgainstPlainTest t = new AgainstPlainTest(7, 9);
        for (int i = 0; i < n && wrong < 5; i++) {
            String text = t.spoilt(t.waste());
            SlowWells x = new SlowWells();
            for (int k = 0; k < text.length(); k++) {
                x.feed(text.charAt(k), 1);
            }
            int fault = PlainWells.fault(text), want = fault < 0 ? 0 : -10 - fault;
            int got = x.waste();
            if (got != want) {
                wrong++;
                System.out.println("waste of " + text + " answered " + got + ", due is " + want);
            }
        }
    }

    private void due(String call, long got, long want) {
        calls++;
        run.append(call).append(" = ").append(want).append('\n');
        if (got != want && !differs) {
            differs = true;
            wrong++;
            run.append("but answered ").append(got).append('\n');
        }
    }

    private void make(long seed, int n) {
        if (random.nextInt(4) > 0) {
            feed(waste());
            due("waste", x.waste(), y.waste());
            for (int i = random.nextInt(7); i > 0; i--) {
                int kind = random.nextInt(7), v = random.nextInt(7);
                due("rule " + kind + " " + v, x.rule(kind, v), y.rule(kind, v));
            }
            for (int i = random.nextInt(5); i > 0; i--) {
                caravan();
            }
        }
        while (calls < n && !differs) {
            call();
        }
        if (differs) {
            System.out.println("seed " + seed + ":\n" + run);
        }
    }

    /** Wells with hardly enough, so that it counts how long one stands at which. */
    private void makeTight(long seed, int n) {
        StringBuilder text = new StringBuilder("carry " + (3 + random.nextInt(9)));
        int wells = 1 + random.nextInt(mostWells);
        for (int k = 0; k < wells; k++) {
            text.append(";well ").append(random.nextInt(14)).append(' ').append(random.nextInt(5));
        }
        for (int k = 0; k <= wells; k++) {
            text.append(";way ").append(1 + random.nextInt(6));
        }
        text.append(";drink 1 h<24");
        if (random.nextInt(3) == 0) {
            text.append(";drink ").append(1 + random.nextInt(2)).append(' ').append(test());
        }
        if (random.nextInt(3) == 0) {
            text.append(";stand 1");
        }
        feed(text.length() > 100 ? text.substring(0, text.lastIndexOf(";")) : text.toString());
        due("waste", x.waste(), y.waste());
        for (int kind : new int[] {5, pick(0, 1, 2, 3, 4, 6), 5}) {
            due("rule " + kind, x.rule(kind, 4), y.rule(kind, 4));
        }
        for (int i = 0; i < 5; i++) {
            int beasts = 1 + random.nextInt(3), start = random.nextInt(9), rule = random.nextInt(3);
            due("caravan " + beasts + " " + start + " " + rule, x.caravan(beasts, start, rule),
                y.caravan(beasts, start, rule));
        }
        due("image", x.image(), y.image());
        while (calls < n && !differs) {
            int c = random.nextInt(5);
            due("goes " + c, x.goes(c), y.goes(c));
            for (int k = 0; k < wells; k++) {
                due("would " + c + " " + (10 + k), x.would(c, 10 + k), y.would(c, 10 + k));
                due("would " + c + " " + (20 + k), x.would(c, 20 + k), y.would(c, 20 + k));
            }
            if (random.nextInt(3) == 0) {
                due("undo", x.undo(), y.undo());
            }
        }
        if (differs) {
            System.out.println("seed " + seed + ":\n" + run);
        }
    }

    private int pick(int... of) {
        return of[random.nextInt(of.length)];
    }

    /** Mostly 0 .. n, seldom beyond. */
    private int about(int n) {
        if (random.nextInt(25) == 0) {
            return pick(-1, -2, n + 1, n + 2, Integer.MAX_VALUE, Integer.MIN_VALUE);
        }
        return random.nextInt(n + 1);
    }

    // ---- texts

    private String number() {
        int n = random.nextInt(3) == 0 ? random.nextInt(100) : random.nextInt(12);
        return n < 10 && random.nextInt(8) == 0 ? "0" + n : "" + n;
    }

    private String test() {
        String asked = random.nextInt(2) == 0 ? "h" : random.nextInt(2) == 0 ? "b" : "w";
        int n = asked.equals("h") ? random.nextInt(26) : asked.equals("b") ? random.nextInt(11) : random.nextInt(7);
        return asked + "<=>".charAt(random.nextInt(3)) + n;
    }

    private String either(int depth) {
        switch (random.nextInt(10)) {
            case 0:
            case 1:
                return either(depth) + "&" + part(depth);
            case 2:
            case 3:
                return either(depth) + "|" + part(depth);
            default:
                return part(depth);
        }
    }

    private String part(int depth) {
        int which = random.nextInt(10);
        if (depth == 4 || which > 3) {
            return test();
        }
        return which < 2 ? "!" + part(depth + 1) : "(" + either(depth + 1) + ")";
    }

    private String waste() {
        StringBuilder text = new StringBuilder();
        int wells = random.nextInt(mostWells + 1);
        for (int k = 0; k < wells; k++) {
            text.append(";well ").append(number()).append(' ').append(random.nextInt(7));
        }
        for (int k = random.nextInt(wells + 2); k > 0; k--) {
            text.append(";way ").append(random.nextInt(10));
        }
        text.append(";drink ").append(random.nextInt(4)).append(' ').append(either(0));
        if (random.nextInt(2) == 0) {
            text.append(";drink ").append(random.nextInt(3)).append(' ').append(random.nextBoolean() ? "h<24" : either(0));
        }
        if (random.nextInt(2) == 0) {
            text.append(";carry ").append(random.nextInt(30));
        }
        if (random.nextInt(2) == 0) {
            text.append(";load ").append(random.nextInt(4));
        }
        if (random.nextInt(2) == 0) {
            text.append(";stand ").append(random.nextInt(3));
        }
        return text.length() > 101 ? waste() : text.substring(1);
    }

    private String spoilt(String text) {
        StringBuilder t = new StringBuilder(text);
        for (int i = random.nextInt(3); i > 0 && t.length() > 0; i--) {
            int at = random.nextInt(t.length());
            char c = "0129;; hbw<=>!(()|&wcdlsay\u00e9".charAt(random.nextInt(27));
            switch (random.nextInt(4)) {
                case 0:
                    t.deleteCharAt(at);
                    break;
                case 1:
                    t.setCharAt(at, c);
                    break;
                case 2:
                    t.insert(at, c);
                    break;
                default:
                    t.setLength(at);
            }
        }
        return t.substring(0, Math.min(100, t.length()));
    }

    private void feed(String text) {
        for (int i = 0; i < text.length(); i += 4) {
            int n = Math.min(4, text.length() - i), bytes = random.nextInt();
            for (int k = 0; k < n; k++) {
                bytes = bytes << 8 | text.charAt(i + k);
            }
            due("feed " + text.substring(i, i + n), x.feed(bytes, n), y.feed(bytes, n));
        }
    }

    // ---- calls

    private void caravan() {
        int beasts = random.nextInt(20) == 0 ? about(11) : 1 + random.nextInt(9);
        int start = random.nextInt(3) == 0 ? about(99) : random.nextInt(20), rule = about(3);
        due("caravan " + beasts + " " + start + " " + rule, x.caravan(beasts, start, rule), y.caravan(beasts, start, rule));
    }

    private int aboutTrip() {
        int well = random.nextInt(mostWells > 4 ? 5 : mostWells + 1);
        return random.nextInt(20) == 0 ? about(30) : pick(0, 0, 1, 2, 10 + well, 20 + well);
    }

    private void call() {
        switch (random.nextInt(24)) {
            case 0:
                if (random.nextInt(4) == 0) {
                    feed(random.nextBoolean() ? waste() : spoilt(waste()));
                    due("waste", x.waste(), y.waste());
                } else {
                    int n = about(4), bytes = random.nextInt();
                    if (random.nextInt(6) == 0) {
                        due("feed " + bytes + " " + n, x.feed(bytes, n), y.feed(bytes, n));
                        due("waste", x.waste(), y.waste());
                    }
                }
                break;
            case 1:
                int of = random.nextInt(3) == 0 ? about(40) : pick(0, 1, 2, 3, 10 + about(4), 20 + about(4), 30 + about(5));
                due("of " + of, x.of(of), y.of(of));
                break;
            case 2:
                int well = about(4), hour = random.nextInt(10) == 0 ? about(999) : random.nextInt(60);
                due("holds " + well + " " + hour, x.holds(well, hour), y.holds(well, hour));
                break;
            case 3:
                int way = about(5), h = about(999), b = about(10);
                due("drinks " + way + " " + h + " " + b, x.drinks(way, h, b), y.drinks(way, h, b));
                break;
            case 4:
                int w = about(4), odds = about(10);
                due("odds " + w + " " + odds, x.odds(w, odds), y.odds(w, odds));
                break;
            case 5:
                int ever = about(random.nextInt(5) == 0 ? 999 : 30);
                due("ever " + ever, x.ever(ever), y.ever(ever));
                break;
            case 6:
                int kind = about(6), v = about(6);
                due("rule " + kind + " " + v, x.rule(kind, v), y.rule(kind, v));
                break;
            case 7:
                int rule = about(9), n = about(6);
                due("row " + rule + " " + n, x.row(rule, n), y.row(rule, n));
                break;
            case 8:
                caravan();
                break;
            case 9:
            case 10:
            case 11:
                int c = about(4), what = aboutTrip();
                due("would " + c + " " + what, x.would(c, what), y.would(c, what));
                break;
            case 12:
                int goes = about(4);
                due("goes " + goes, x.goes(goes), y.goes(goes));
                break;
            case 13:
                int hand = random.nextInt(9) == 0 ? -1 : about(6);
                due("hand " + hand, x.hand(hand), y.hand(hand));
                break;
            case 14:
                int g = about(4), asked = aboutTrip();
                due("gone " + g + " " + asked, x.gone(g, asked), y.gone(g, asked));
                break;
            default:
                callMore();
        }
    }

    private void callMore() {
        switch (random.nextInt(12)) {
            case 0:
                int start = about(random.nextInt(3) == 0 ? 99 : 20), rule = about(3), what = about(1);
                due("size " + start + " " + rule + " " + what, x.size(start, rule, what), y.size(start, rule, what));
                break;
            case 1:
                int caravan = random.nextInt(9) == 0 ? -1 : about(4);
                due("several " + caravan, x.several(caravan), y.several(caravan));
                break;
            case 2:
                int all = random.nextInt(8) == 0 ? about(15) : pick(0, 1, 2, 3, 4, 5, 10, 11, 12);
                due("all " + all, x.all(all), y.all(all));
                break;
            case 3:
                int c = about(4), part = about(1);
                due("likely " + c + " " + part, x.likely(c, part), y.likely(c, part));
                break;
            case 4:
                int d = about(4), f = about(30), g = about(10), place = about(1);
                due("dig " + d + " " + f + " " + g + " " + place, x.dig(d, f, g, place), y.dig(d, f, g, place));
                break;
            case 5:
                int tape = about(5), at = about(3), one = about(4);
                due("judge " + tape + " " + at + " " + one, x.judge(tape, at, one), y.judge(tape, at, one));
                break;
            case 6:
                if (random.nextInt(3) == 0) {
                    due("image", x.image(), y.image());
                } else if (random.nextInt(3) == 0) {
                    due("undo", x.undo(), y.undo());
                }
                break;
            case 7:
                int r = about(9), act = about(2), arg = random.nextBoolean() ? random.nextInt() : random.nextInt(9);
                due("act " + r + " " + act + " " + arg, x.act(r, act, arg), y.act(r, act, arg));
                for (int i = -1; i < 9; i++) {
                    due("trace " + i, x.trace(i), y.trace(i));
                }
                break;
            case 8:
                int taken = about(9), k = about(6), count = about(6);
                due("taken " + taken + " " + k, x.taken(taken, k), y.taken(taken, k));
                due("count " + count, x.count(count), y.count(count));
                break;
            default:
                callTapes();
        }
    }

    private void callTapes() {
        int tape = about(5), i = about(6);
        switch (random.nextInt(6)) {
            case 0:
                int sort = random.nextInt(3) == 0 ? 2 : about(5) - 1, n = random.nextInt(5) == 0 ? about(60) : about(7);
                due("tape " + tape + " " + sort + " " + n, x.tape(tape, sort, n), y.tape(tape, sort, n));
                break;
            case 1:
            case 2:
            case 3:
                long v = random.nextInt(4) == 0 ? random.nextLong() : about(6);
                due("item " + tape + " " + i + " " + v, x.item(tape, i, v), y.item(tape, i, v));
                break;
            case 4:
                due("read " + tape + " " + i, x.read(tape, i), y.read(tape, i));
                break;
            default:
                int other = random.nextInt(3) == 0 ? tape : about(5), j = about(6), many = about(6);
                due("shift " + tape + " " + i + " " + other + " " + j + " " + many, x.shift(tape, i, other, j, many),
                    y.shift(tape, i, other, j, many));
        }
    }
}
