/** Boundary cases of THE IMAGE, ACTS, THE TRACE, KINDS, counts and TAPES: promises 22 to 31. */
public final class ActAndTapeEdgesTest extends Sentences {
    private static final int STANDS = 0, DRAWS = 1, TELLS = 2;
    private static final int BYTES = 0, SHORTS = 1, INTS = 2, LONGS = 3, BOOLEANS = 4, NOTHING_THERE = -1;

    public static void main(String[] args) {
        image();
        whatTheImageHolds();
        whatStays();
        imagesOfNoWaste();
        bodies();
        wrapping();
        numbersOfRules();
        trace();
        noTrace();
        taken();
        counts();
        tape();
        remade();
        items();
        item();
        read();
        shift();
        shiftPlaces();
        shifted();
        end();
    }

    // ---- the image

    private static void image() {
        says("Promise 23", "STATE: there is none.");
        SlowWells x = new SlowWells();
        due("undo() of none", x.undo(), STATE);
        due("undo() of none, again", x.undo(), STATE);
        says("Promise 22", "THE IMAGE is taken: how many CARAVANS of SEVERAL there are.");
        due("image() of none", x.image(), 0);
        says("Promise 23", "All is as THE IMAGE: how many of SEVERAL.");
        x.rule(RULE, 0);
        x.caravan(1, 0, 0);
        for (int n = 0; n <= 3; n++) {
            due("image() of " + n, x.image(), n);
            x.several(-1);
            due("undo() to " + n, x.undo(), n);
            due("count(3)", x.count(3), n);
            due("undo() to " + n + " again", x.undo(), n);
            if (n < 3) {
                due("several(0)", x.several(0), n + 1);
            }
        }
        due("a fourth", x.several(0), FULL);
        due("undo()", x.undo(), 3);
    }

    private static void whatTheImageHolds() {
        says("Terms 3", "THE IMAGE: THE WELLS, which WASTE holds, ODDS, SEVERAL, the ROW told by hand");
        SlowWells x = with("well 9 1;well 9 0;way 1;way 1;way 1;drink 2 h<24;carry 9");
        x.rule(RULE, 0);
        x.caravan(1, 0, 0);
        x.caravan(2, 5, 0);
        x.goes(0);
        x.odds(0, 10);
        x.odds(4, 3);
        x.several(1);
        x.several(0);
        x.hand(6);
        x.hand(0);
        due("image()", x.image(), 2);
        x.goes(1);
        due("drawn", x.holds(0, 6), 5);
        x.odds(0, 1);
        x.odds(4, 4);
        x.several(-1);
        x.several(0);
        x.several(0);
        x.several(0);
        x.hand(-1);
        x.hand(1);
        x.hand(2);
        x.hand(3);
        due("another WASTE", waste(x, "way 5"), 1);
        for (int round = 0; round < 2; round++) {
            due("undo()", x.undo(), 2);
            due("which WASTE holds", x.of(0), 2);
            due("WELL 0", x.holds(0, 1), 7);
            due("WELL 0 later", x.holds(0, 2), 8);
            due("WELL 1", x.holds(1, 2), 7);
            due("till when one stands there", x.would(0, OVER), 3);
            due("count(3)", x.count(3), 2);
            due("the first of SEVERAL", x.all(10), 8);
            due("the second of SEVERAL is LOST behind it", x.all(11), 8);
            due("count(4)", x.count(4), 2);
            due("the ROW", x.gone(0, STAND), 6);
            due("the ROW's second", x.gone(0, STAND + 1), 0);
            due("ODDS", x.odds(0, 5), 10);
            due("ODDS of a WELL that the WASTE has not", x.odds(4, 5), 3);
            x.goes(0);
            x.hand(1);
            x.several(-1);
        }
        says("Promise 22", "THE IMAGE is taken");
        due("undo()", x.undo(), 2);
        x.several(-1);
        x.hand(-1);
        waste(x, "carry 7");
        due("another image()", x.image(), 0);
        x.hand(4);
        waste(x, "carry 8");
        due("undo()", x.undo(), 0);
        due("of(1)", x.of(1), 7);
        due("count(4)", x.count(4), 0);
    }

    private static void whatStays() {
        says("Terms 3", "(RULES, CARAVANS stay)");
        SlowWells x = with("well 9 0;way 1;way 1");
        x.rule(TOLD, 0);
        x.row(0, 2);
        x.image();
        x.row(0, 3);
        due("rule", x.rule(NIGHT, 5), 1);
        due("caravan", x.caravan(2, 3, 1), 0);
        due("caravan", x.caravan(3, 4, 0), 1);
        due("another WASTE", waste(x, "way 9"), 1);
        x.tape(1, INTS, 2);
        x.item(1, 1, 7);
        x.act(1, STANDS, 1);
        feed(x, "carry");
        due("undo()", x.undo(), 0);
        due("RULES", x.count(1), 2);
        due("the ROW of a TOLD one", x.row(0, 4), 3);
        due("CARAVANS", x.count(2), 2);
        due("their STARTS", x.would(0, OVER), 3 + 1 + 5 + 1);
        due("their RULES", x.would(1, STAND), 2);
        due("WASTES", x.count(0), 2);
        due("TAPES", x.read(1, 1), 7);
        due("THE TEXT", x.count(5), 5);
        due("THE TRACE", x.trace(1), 10);
        due("the next WASTE's number", waste(x, " 1"), 2);
    }

    private static void imagesOfNoWaste() {
        says("Terms 3", "which WASTE holds");
        SlowWells x = new SlowWells();
        x.odds(1, 4);
        x.hand(5);
        due("image() with no WASTE", x.image(), 0);
        waste(x, "well 3 3");
        x.rule(RULE, 0);
        x.caravan(1, 0, 0);
        x.several(0);
        x.hand(-1);
        x.odds(1, 9);
        due("undo()", x.undo(), 0);
        each("of", x::of, STATE, 0, 10, 30);
        due("holds(0, 0)", x.holds(0, 0), STATE);
        due("drinks(0, 0, 1)", x.drinks(0, 0, 1), STATE);
        due("ever(0)", x.ever(0), STATE);
        due("would(0, 0)", x.would(0, 0), STATE);
        due("goes(0)", x.goes(0), STATE);
        due("gone(0, 0)", x.gone(0, 0), STATE);
        due("size(0, 0, 0)", x.size(0, 0, 0), STATE);
        due("all(0)", x.all(0), STATE);
        due("likely(0, 0)", x.likely(0, 0), NO);
        due("dig(0, 0, 0, 0)", x.dig(0, 0, 0, 0), STATE);
        due("judge(0, 0, 0)", x.judge(0, 0, 0), STATE);
        due("count(0)", x.count(0), 1);
        due("count(3)", x.count(3), 0);
        due("count(4)", x.count(4), 1);
        due("odds(1, 0)", x.odds(1, 0), 4);
        due("the next WASTE", waste(x, "well 3 3"), 1);
        due("is full", x.holds(0, 0), 3);
    }

    // ---- acts

    private static void act(SlowWells x, int rule, int act, int arg, int want, int... bodies) {
        String call = "act(" + rule + ", " + act + ", " + arg + ")";
        due(call, x.act(rule, act, arg), want);
        due("how many bodies of " + call, x.count(6), bodies.length);
        for (int i = 0; i < bodies.length; i++) {
            due("body " + i + " of " + call, x.trace(i), bodies[i]);
        }
        due("none behind the last of " + call, x.trace(bodies.length), NONE);
    }

    private static SlowWells kinds(int v) {
        SlowWells x = new SlowWells();
        for (int kind = 0; kind <= 6; kind++) {
            x.rule(kind, v);
        }
        return x;
    }

    private static void bodies() {
        SlowWells x = kinds(2);
        says("Terms 3", "RULE: 10 stands: x + i. 11 draws: stands(x) - v. 12 tells: draws(x) * 2.");
        act(x, RULE, STANDS, 5, 5, 10);
        act(x, RULE, DRAWS, 5, 3, 11, 10);
        act(x, RULE, TELLS, 5, 6, 12, 11, 10);
        says("Terms 3", "WAIT: 20 draws: super.draws(x) ^ 6.");
        act(x, WAIT, STANDS, 5, 6, 10);
        act(x, WAIT, DRAWS, 5, 4 ^ 6, 20, 11, 10);
        act(x, WAIT, TELLS, 5, (4 ^ 6) * 2, 12, 20, 11, 10);
        says("Terms 3", "NIGHT: 30 stands: super.stands(x * 3).");
        act(x, NIGHT, STANDS, 5, 17, 30, 10);
        act(x, NIGHT, DRAWS, 5, 15, 11, 30, 10);
        act(x, NIGHT, TELLS, 5, 30, 12, 11, 30, 10);
        says("Terms 3", "TOLD: 40 tells: super.tells(x) + draws(1).");
        act(x, TOLD, STANDS, 5, 8, 10);
        act(x, TOLD, DRAWS, 5, 6, 11, 10);
        act(x, TOLD, TELLS, 5, 12 + 2, 40, 12, 11, 10, 11, 10);
        says("Terms 3", "LONG: 50 stands: -super.stands(x). 51 draws: super.draws(x + 1).");
        act(x, LONG, STANDS, 5, -9, 50, 10);
        act(x, LONG, DRAWS, 5, -12 ^ 6, 51, 20, 11, 50, 10);
        act(x, LONG, TELLS, 5, (-12 ^ 6) * 2, 12, 51, 20, 11, 50, 10);
        says("Terms 3", "BEST: 60 tells: super.tells(x - i).");
        act(x, BEST, STANDS, 5, 10, 10);
        act(x, BEST, DRAWS, 5, 8 ^ 6, 20, 11, 10);
        act(x, BEST, TELLS, 5, (3 ^ 6) * 2, 60, 12, 20, 11, 10);
        says("Terms 3", "DARK: 70 draws: super.draws(x) + super.stands(2). 71 stands: super.stands(x) ^ v.");
        act(x, DARK, STANDS, 5, 21 ^ 2, 71, 30, 10);
        act(x, DARK, DRAWS, 5, (21 ^ 2) - 2 + 12, 70, 11, 71, 30, 10, 30, 10);
        act(x, DARK, TELLS, 5, ((21 ^ 2) + 10) * 2, 12, 70, 11, 71, 30, 10, 30, 10);
    }

    private static void wrapping() {
        says("Terms 3", "ACTS of a RULE with x (wrapping)");
        SlowWells x = kinds(6);
        act(x, RULE, STANDS, HIGH, HIGH, 10);
        act(x, RULE, STANDS, LOW, LOW, 10);
        act(x, WAIT, STANDS, HIGH, LOW, 10);
        act(x, DARK, STANDS, HIGH, (HIGH - 2 + 6) ^ 6, 71, 30, 10);
        act(x, RULE, DRAWS, LOW, HIGH - 5, 11, 10);
        act(x, RULE, DRAWS, LOW + 6, LOW, 11, 10);
        act(x, RULE, DRAWS, LOW + 5, HIGH, 11, 10);
        act(x, RULE, TELLS, HIGH, -14, 12, 11, 10);
        act(x, RULE, TELLS, (1 << 30) + 6, LOW, 12, 11, 10);
        act(x, WAIT, DRAWS, HIGH, HIGH - 5 ^ 6, 20, 11, 10);
        act(x, NIGHT, STANDS, HIGH, HIGH, 30, 10);
        act(x, NIGHT, STANDS, LOW, LOW + 2, 30, 10);
        act(x, NIGHT, STANDS, 715827883, LOW + 3, 30, 10);
        act(x, NIGHT, STANDS, -715827883, LOW + 1, 30, 10);
        // super.tells: (HIGH - 2 + 3 - 6) * 2, and draws(1) is -2
        act(x, TOLD, TELLS, HIGH - 2, (HIGH - 5) * 2 - 2, 40, 12, 11, 10, 11, 10);
        act(x, LONG, STANDS, LOW - 4, LOW, 50, 10);
        act(x, LONG, STANDS, HIGH - 4, LOW + 1, 50, 10);
        act(x, LONG, DRAWS, HIGH, HIGH - 9 ^ 6, 51, 20, 11, 50, 10);
        act(x, BEST, TELLS, LOW + 4, (LOW - 2 ^ 6) * 2, 60, 12, 20, 11, 10);
        act(x, DARK, DRAWS, LOW, (LOW + 6 ^ 6) - 6 + 12, 70, 11, 71, 30, 10, 30, 10);
        act(x, DARK, TELLS, -1, ((3 ^ 6) + 6) * 2, 12, 70, 11, 71, 30, 10, 30, 10);
    }

    private static void numbersOfRules() {
        says("Terms 3", "0 stands, 1 draws, 2 tells; i its number");
        SlowWells x = new SlowWells();
        for (int i = 0; i < 10; i++) {
            x.rule(RULE, 0);
            due("act(" + i + ", 0, 0)", x.act(i, STANDS, 0), i);
        }
        due("act(9, 0, HIGH)", x.act(9, STANDS, HIGH), LOW + 8);
        SlowWells y = new SlowWells();
        y.rule(BEST, 0);
        y.rule(BEST, 6);
        due("number 0, v 0", y.act(0, TELLS, 7), (7 ^ 6) * 2);
        due("number 1, v 6", y.act(1, TELLS, 7), (1 ^ 6) * 2);
    }

    private static void trace() {
        says("Terms 3", "THE TRACE: the numbers of the bodies that ran in the latest act(), as they began; the first 20 are kept.");
        SlowWells x = kinds(6);
        due("the most that runs is less than 20, so that all are kept", x.act(DARK, TELLS, 0) == 12 ? x.count(6) : -1, 8);
        says("Promise 25", "THE TRACE's i-th body. NONE.");
        x = kinds(6);
        each("trace of none", x::trace, NONE, LOW, -1, 0, 19, 20, HIGH);
        act(x, DARK, TELLS, 0, ((0 + 6 ^ 6) - 6 + 12) * 2, 12, 70, 11, 71, 30, 10, 30, 10);
        each("trace of the longest, 8", x::trace, NONE, LOW, -1, 8, 19, 20, HIGH);
        act(x, RULE, STANDS, 0, 0, 10);
        each("trace of 1", x::trace, NONE, LOW, -1, 1, 2, 7, 8, HIGH);
        due("trace(0)", x.trace(0), 10);
        due("taken(0, 0)", x.taken(0, 0), 0);
        x.rule(0, 0);
        due("it stays till the next act()", x.trace(0), 10);
        due("how many", x.count(6), 1);
    }

    private static void noTrace() {
        says("Promise 24", "0, and no TRACE then: no such RULE, act.");
        SlowWells x = new SlowWells();
        each("act of no RULE", rule -> x.act(rule, STANDS, 7), 0, LOW, -1, 0, 9, HIGH);
        x.rule(RULE, 0);
        x.rule(RULE, 0);
        for (int rule : new int[] {LOW, -1, 2, 9, HIGH}) {
            due("an act", x.act(1, TELLS, 7), 16);
            due("its TRACE", x.count(6), 3);
            due("act of no RULE " + rule, x.act(rule, STANDS, 7), 0);
            due("count(6)", x.count(6), 0);
            due("trace(0)", x.trace(0), NONE);
        }
        for (int act : outside(0, 2)) {
            due("an act", x.act(1, TELLS, 7), 16);
            due("no such act " + act, x.act(1, act, 7), 0);
            due("count(6)", x.count(6), 0);
            due("trace(0)", x.trace(0), NONE);
        }
    }

    private static void taken() {
        says("Promise 26", "BAD: k; NOTHING: no such RULE; CAST.");
        SlowWells x = new SlowWells();
        each("taken(rule, 0)", rule -> x.taken(rule, 0), NOTHING, LOW, -1, 0, 9, HIGH);
        each("taken(rule, 7)", rule -> x.taken(rule, 7), BAD, LOW, -1, 0, 9, HIGH);
        for (int kind = 0; kind <= 6; kind++) {
            x.rule(kind, 0);
        }
        each("taken(rule, 0)", rule -> x.taken(rule, 0), NOTHING, outside(0, 6));
        each("taken(rule, -1)", rule -> x.taken(rule, -1), BAD, outside(0, 6));
        each("taken(0, k)", k -> x.taken(0, k), BAD, outside(0, 6));
        says("Promise 26", "A RULE taken for one of KIND k (0 .. 6), or one under that: its KIND.");
        int[][] above = {{0}, {0, 1}, {0, 2}, {0, 3}, {0, 1, 4}, {0, 1, 5}, {0, 2, 6}};
        for (int kind = 0; kind <= 6; kind++) {
            for (int k = 0; k <= 6; k++) {
                boolean isUnder = false;
                for (int one : above[kind]) {
                    isUnder |= one == k;
                }
                due("taken(" + kind + ", " + k + ")", x.taken(kind, k), isUnder ? kind : CAST);
            }
        }
        says("Terms 1", "0 RULE; 1 WAIT, 2 NIGHT, 3 TOLD under RULE; 4 LONG, 5 BEST under WAIT; 6 DARK under NIGHT");
        x.rule(DARK, 0);
        due("its KIND, not its number", x.taken(7, 2), 6);
    }

    private static void counts() {
        says("Promise 27", "BAD.");
        SlowWells x = new SlowWells();
        each("count", x::count, BAD, outside(0, 6));
        says("Promise 27", "How many: 0 WASTES, 1 RULES, 2 CARAVANS, 3 of SEVERAL, 4 of the ROW told by hand, 5 bytes of THE TEXT");
        each("count", x::count, 0, 0, 1, 2, 3, 4, 5, 6);
        for (int i = 0; i < 5; i++) {
            waste(x, "way 1");
            x.hand(1);
        }
        for (int i = 0; i < 10; i++) {
            x.rule(TOLD, 0);
        }
        for (int i = 0; i < 6; i++) {
            x.caravan(1, 0, 0);
        }
        for (int i = 0; i < 3; i++) {
            x.several(0);
        }
        feed(x, times(100, "x"));
        int[] most = {5, 10, 6, 3, 5, 100};
        for (int what = 0; what <= 5; what++) {
            due("count(" + what + ") of the most there are", x.count(what), most[what]);
        }
        x.waste();
        x.hand(1);
        x.rule(0, 0);
        x.caravan(1, 0, 0);
        x.several(0);
        x.feed(0, 1);
        for (int what = 0; what <= 5; what++) {
            due("count(" + what + ") of no more", x.count(what), most[what]);
        }
        says("Promise 27", "6 bodies that ran in the latest act() (all, kept or not)");
        due("act", x.act(0, TELLS, 0), 0 + 1);
        due("count(6)", x.count(6), 6);
    }

    // ---- tapes

    private static void tape() {
        says("Promise 28", "NONE: tape; BAD: sort, n above 60; SIZE.");
        SlowWells x = new SlowWells();
        each("tape(tape, 0, 1)", tape -> x.tape(tape, BYTES, 1), NONE, outside(0, 5));
        each("tape(tape, 5, 61)", tape -> x.tape(tape, 5, 61), NONE, outside(0, 5));
        each("tape(tape, 0, -1)", tape -> x.tape(tape, BYTES, -1), NONE, outside(0, 5));
        each("tape(tape, -1, 0)", tape -> x.tape(tape, NOTHING_THERE, 0), NONE, outside(0, 5));
        each("tape(0, sort, 1)", sort -> x.tape(0, sort, 1), BAD, LOW, -2, 5, HIGH);
        each("tape(0, sort, -1)", sort -> x.tape(0, sort, -1), BAD, LOW, -2, 5, HIGH);
        for (int sort = 0; sort <= 4; sort++) {
            int its = sort;
            each("tape(0, " + sort + ", n)", n -> x.tape(0, its, n), BAD, 61, HIGH);
            each("tape(0, " + sort + ", n)", n -> x.tape(0, its, n), SIZE, LOW, -1);
        }
        due("still nothing", x.item(0, 0, 0), NOTHING);
        says("Terms 4", "or a row of 0 bytes, 1 shorts, 2 ints, 3 longs, 4 booleans (items 0, 1)");
        long[] cut = {0x6f, -0x1091, 0x7654ef6f, 0x12345677654ef6fL, 1};
        for (int sort = 0; sort <= 4; sort++) {
            x.tape(1, sort, 1);
            x.item(1, 0, 0x12345677654ef6fL);
            due("an item of sort " + sort, x.read(1, 0), cut[sort]);
        }
        says("Promise 28", "A TAPE becomes a row of n (0 .. 60) of a sort, all 0");
        for (int tape = 0; tape <= 5; tape++) {
            int sort = Math.min(4, tape), its = tape;
            due("a row of 0", x.tape(tape, sort, 0), 1);
            each("no place", i -> x.item(its, i, 0), PLACE, LOW, -1, 0, 1, HIGH);
            due("a row of 1", x.tape(tape, sort, 1), 1);
            due("the last place", x.item(tape, 0, 1), 1);
            due("a row of 60", x.tape(tape, sort, 60), 1);
            each("all 0", i -> x.read(its, i), 0, 0, 1, 58, 59);
            due("the last place", x.item(tape, 59, 1), 1);
            due("no place", x.item(tape, 60, 1), PLACE);
        }
        says("Promise 28", "or holds nothing (sort -1: n does not matter): 1");
        for (int n : new int[] {LOW, -1, 0, 60, 61, HIGH}) {
            due("a row", x.tape(0, INTS, 3), 1);
            due("tape(0, -1, " + n + ")", x.tape(0, NOTHING_THERE, n), 1);
            due("nothing there", x.item(0, 0, 0), NOTHING);
            due("nothing there", x.read(0, 0), NO);
        }
        due("the next one is as it was", x.read(1, 59), 1);
    }

    private static void remade() {
        says("Answers", "What is answered so changes nothing");
        SlowWells x = new SlowWells();
        x.tape(3, SHORTS, 60);
        x.item(3, 0, 7);
        x.item(3, 59, -7);
        x.tape(3, 5, 1);
        x.tape(3, INTS, 61);
        x.tape(3, INTS, -1);
        x.tape(3, -2, 0);
        due("read(3, 0)", x.read(3, 0), 7);
        due("read(3, 59)", x.read(3, 59), -7);
        x.item(3, 0, 1 << 16 | 5);
        due("shorts still", x.read(3, 0), 5);
        says("Promise 28", "all 0");
        x.tape(3, SHORTS, 60);
        due("read(3, 0)", x.read(3, 0), 0);
        due("read(3, 59)", x.read(3, 59), 0);
        x.item(3, 59, 9);
        x.tape(3, LONGS, 1);
        x.tape(3, LONGS, 60);
        due("read(3, 59)", x.read(3, 59), 0);
    }

    private static void item(SlowWells x, int tape, long v, long want) {
        due("item(" + tape + ", 1, " + v + ")", x.item(tape, 1, v), 1);
        due("read(" + tape + ", 1) of " + v, x.read(tape, 1), want);
    }

    private static void items() {
        says("Promise 29", "its lowest bits, as many as an item has");
        SlowWells x = new SlowWells();
        for (int sort = 0; sort <= 4; sort++) {
            x.tape(sort, sort, 3);
        }
        long[] ends = {Byte.MAX_VALUE, Short.MAX_VALUE, Integer.MAX_VALUE, Long.MAX_VALUE};
        for (int sort = 0; sort <= 3; sort++) {
            long most = ends[sort];
            item(x, sort, 0, 0);
            item(x, sort, 1, 1);
            item(x, sort, -1, -1);
            item(x, sort, most, most);
            item(x, sort, -most - 1, -most - 1);
            item(x, sort, most + 1, -most - 1);
            item(x, sort, -most - 2, most);
            item(x, sort, 2 * most + 1, -1);
            item(x, sort, 2 * most + 2, 0);
            item(x, sort, Long.MAX_VALUE, sort == LONGS ? Long.MAX_VALUE : -1);
            item(x, sort, Long.MIN_VALUE, sort == LONGS ? Long.MIN_VALUE : 0);
        }
        says("Promise 29", "booleans: whether v is not 0");
        for (long v : new long[] {1, -1, 2, 256, 1L << 32, Long.MIN_VALUE, Long.MAX_VALUE}) {
            item(x, BOOLEANS, 0, 0);
            item(x, BOOLEANS, v, 1);
        }
        item(x, BOOLEANS, 0, 0);
        for (int sort = 0; sort <= 4; sort++) {
            due("the item ahead is as it was", x.read(sort, 0), 0);
            due("the item behind is as it was", x.read(sort, 2), 0);
        }
    }

    private static void item() {
        says("Promise 29", "NONE; NOTHING; PLACE.");
        SlowWells x = new SlowWells();
        each("item(tape, 0, 0)", tape -> x.item(tape, 0, 0), NONE, outside(0, 5));
        each("item(tape, -1, 0)", tape -> x.item(tape, -1, 0), NONE, outside(0, 5));
        each("item(0, i, 0)", i -> x.item(0, i, 0), NOTHING, LOW, -1, 0, 60, HIGH);
        x.tape(0, INTS, 3);
        each("item(0, i, 5)", i -> x.item(0, i, 5), PLACE, outside(0, 2));
        each("read(0, i)", i -> x.read(0, i), 0, 0, 1, 2);
        each("item(0, i, 5)", i -> x.item(0, i, 5), 1, 0, 2);
        due("read(0, 0)", x.read(0, 0), 5);
        due("read(0, 1)", x.read(0, 1), 0);
        due("read(0, 2)", x.read(0, 2), 5);
    }

    private static void read() {
        says("Promise 30", "NO: no such TAPE, nothing there, no such place.");
        SlowWells x = new SlowWells();
        each("read(tape, 0)", tape -> x.read(tape, 0), NO, outside(0, 5));
        each("read(0, i), nothing there", i -> x.read(0, i), NO, LOW, -1, 0, 1, HIGH);
        x.tape(0, BYTES, 0);
        each("read(0, i), a row of 0", i -> x.read(0, i), NO, LOW, -1, 0, 1, HIGH);
        x.tape(0, BYTES, 60);
        each("read(0, i)", i -> x.read(0, i), NO, outside(0, 59));
        each("read(0, i)", i -> x.read(0, i), 0, 0, 59);
    }

    private static void shift() {
        says("Promise 31", "NONE: tapes; NOTHING; CAST: of unlike sorts; PLACE");
        SlowWells x = new SlowWells();
        x.tape(0, BYTES, 3);
        x.tape(1, SHORTS, 3);
        x.tape(2, BYTES, 5);
        for (int bad : outside(0, 5)) {
            due("shift(" + bad + ", .. 0)", x.shift(bad, 0, 0, 0, 0), NONE);
            due("shift(0, .. " + bad + ")", x.shift(0, 0, bad, 0, 0), NONE);
            due("ahead of NOTHING", x.shift(5, 0, bad, 0, 0), NONE);
            due("ahead of NOTHING", x.shift(bad, -1, 5, -1, -1), NONE);
        }
        due("NOTHING ahead of PLACE", x.shift(0, -1, 5, -1, -1), NOTHING);
        due("NOTHING ahead of PLACE", x.shift(5, -1, 0, -1, -1), NOTHING);
        due("NOTHING in both", x.shift(5, 0, 4, 0, 0), NOTHING);
        due("NOTHING in the same", x.shift(5, 0, 5, 0, 0), NOTHING);
        due("CAST ahead of PLACE", x.shift(0, -1, 1, -1, -1), CAST);
        due("CAST, though none is shifted", x.shift(0, 0, 1, 0, 0), CAST);
        due("PLACE", x.shift(0, -1, 2, 0, 0), PLACE);
        due("done", x.shift(0, 0, 2, 0, 3), 3);
        for (int one = 0; one <= 4; one++) {
            for (int other = 0; other <= 4; other++) {
                x.tape(3, one, 1);
                x.tape(4, other, 1);
                due("shift of " + one + " to " + other, x.shift(3, 0, 4, 0, 1), one == other ? 1 : CAST);
            }
        }
    }

    private static void shiftPlaces() {
        says("Promise 31", "PLACE: n, i or j is below 0, or beyond either's end.");
        SlowWells x = new SlowWells();
        x.tape(0, INTS, 3);
        x.tape(1, INTS, 5);
        int[][] places = {{-1, 0, 0}, {0, -1, 0}, {0, 0, -1}, {LOW, 0, 0}, {0, LOW, 0}, {0, 0, LOW}, {-1, 0, 1},
            {0, 0, 4}, {1, 0, 3}, {3, 0, 1}, {4, 0, 0}, {0, 3, 3}, {0, 5, 1}, {0, 6, 0}, {HIGH, 0, 0}, {0, HIGH, 0},
            {0, 0, HIGH}, {HIGH, 0, 1}, {0, HIGH, 1}, {HIGH, HIGH, HIGH}, {1, 1, HIGH}, {1, 0, HIGH}, {2, 0, HIGH - 1},
            {-1, -1, -1}, {LOW, LOW, HIGH}, {-1, 0, HIGH}, {-1, -1, 1}, {1, 1, -1}, {3, 5, -1}};
        for (int[] p : places) {
            due("shift(0, " + p[0] + ", 1, " + p[1] + ", " + p[2] + ")", x.shift(0, p[0], 1, p[1], p[2]), PLACE);
        }
        int[][] good = {{0, 0, 0}, {3, 0, 0}, {0, 5, 0}, {3, 5, 0}, {0, 0, 3}, {0, 2, 3}, {2, 4, 1}, {1, 0, 2}};
        for (int[] g : good) {
            due("shift(0, " + g[0] + ", 1, " + g[1] + ", " + g[2] + ")", x.shift(0, g[0], 1, g[1], g[2]), g[2]);
        }
        x.tape(2, INTS, 0);
        due("none of a row of 0", x.shift(2, 0, 2, 0, 0), 0);
        due("one of a row of 0", x.shift(2, 0, 0, 0, 1), PLACE);
        due("one to a row of 0", x.shift(0, 0, 2, 0, 1), PLACE);
        x.tape(3, INTS, 60);
        due("60", x.shift(3, 0, 3, 0, 60), 60);
        due("61", x.shift(3, 0, 3, 0, 61), PLACE);
    }

    private static void shifted() {
        says("Promise 31", "come to another one (or the same) from j on, as they all were before: n");
        int[][] cases = {{0, 1, 4}, {1, 0, 4}, {0, 2, 3}, {2, 0, 3}, {0, 4, 1}, {4, 0, 1}, {0, 0, 5}, {2, 2, 2}, {1, 3, 0}};
        for (int sort = 0; sort <= 4; sort++) {
            for (int[] c : cases) {
                SlowWells x = new SlowWells();
                long[] items = new long[5];
                x.tape(0, sort, 5);
                for (int i = 0; i < 5; i++) {
                    items[i] = sort == BOOLEANS ? i * i / 2 & 1 : -9 + 4 * i;
                    x.item(0, i, items[i]);
                }
                due("to the same", x.shift(0, c[0], 0, c[1], c[2]), c[2]);
                for (int i = 0; i < 5; i++) {
                    boolean isNew = i >= c[1] && i < c[1] + c[2];
                    due("item " + i + " of sort " + sort, x.read(0, i), isNew ? items[i - c[1] + c[0]] : items[i]);
                }
            }
        }
        SlowWells y = new SlowWells();
        y.tape(0, LONGS, 3);
        y.tape(1, LONGS, 4);
        y.item(0, 0, Long.MAX_VALUE);
        y.item(0, 1, Long.MIN_VALUE + 1);
        y.item(1, 0, 5);
        y.item(1, 3, 6);
        due("to another", y.shift(0, 0, 1, 1, 2), 2);
        long[] wants = {5, Long.MAX_VALUE, Long.MIN_VALUE + 1, 6};
        for (int i = 0; i < 4; i++) {
            due("item " + i, y.read(1, i), wants[i]);
        }
        due("these stay", y.read(0, 0), Long.MAX_VALUE);
        y.item(0, 0, 1);
        due("they are not the same items", y.read(1, 1), Long.MAX_VALUE);
    }
}
