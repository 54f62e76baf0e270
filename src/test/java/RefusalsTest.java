import java.util.ArrayList;
import java.util.List;

/** What is refused and what is asked changes nothing; and an object does for 512 calls. */
public final class RefusalsTest extends Sentences {
    /** A call of an object; its name is told if something is wrong with it. */
    record Named(String name, long want, Asked call) {
    }

    interface Asked {
        long of(SlowWells x);
    }

    interface Scene {
        void play(SlowWells x);
    }

    public static void main(String[] args) {
        portraitsTell();
        refusedWithNoWaste();
        refusedWithSome();
        refusedAtTheMost();
        firstWithNoWaste();
        firstWithSome();
        firstAtTheMost();
        asked();
        manyCalls();
        dearestCalls();
        end();
    }

    // ---- scenes

    private static void rulesAndCaravans(SlowWells x) {
        for (int kind : new int[] {RULE, WAIT, TOLD, BEST}) {
            x.rule(kind, 3);
        }
        x.caravan(2, 0, 0);
        x.caravan(1, 3, 3);
        x.caravan(3, 20, 2);
        x.row(2, 1);
        x.row(2, 0);
    }

    private static void noWaste(SlowWells x) {
        rulesAndCaravans(x);
        x.odds(1, 4);
        x.several(2);
        x.hand(3);
        x.tape(0, 2, 3);
        x.item(0, 1, 5);
        x.tape(1, 0, 2);
        x.act(3, 2, 9);
        feed(x, "well 9");
    }

    private static void some(SlowWells x) {
        waste(x, "way 5;carry 99");
        waste(x, "well 20 2;well 9 3;way 2;way 3;way 1;drink 1 h<13;drink 1 b=2;stand 1;carry 9;load 4");
        rulesAndCaravans(x);
        x.several(1);
        x.hand(2);
        x.odds(3, 5);
        x.goes(0);
        x.image();
        x.several(0);
        x.hand(1);
        x.odds(0, 2);
        x.odds(1, 4);
        x.goes(2);
        x.tape(0, 2, 3);
        x.item(0, 1, 5);
        x.tape(1, 0, 2);
        x.item(1, 0, -3);
        x.tape(2, 4, 60);
        x.act(3, 2, 9);
        feed(x, "well 9 9;carr");
    }

    private static void most(SlowWells x) {
        for (int i = 0; i < 4; i++) {
            waste(x, "way 1");
        }
        rulesAndCaravans(x);
        waste(x, "well 20 2;well 9 3;way 2;way 3;way 1;drink 1 h<13;drink 1 b=2;stand 1;carry 9;load 4");
        for (int i = 0; i < 3; i++) {
            x.row(2, 5);
            x.caravan(1, i, i);
            x.several(i);
        }
        x.image();
        for (int i = 0; i < 6; i++) {
            x.rule(i, i);
            x.hand(i);
            x.tape(i, 3, 60);
            x.item(i, i, i);
        }
        x.goes(1);
        x.act(9, 2, 9);
        feed(x, times(100, "x"));
    }

    /** All that one can see of an object: what it answers now, what it takes up next, and what is as THE IMAGE. */
    private static long[] portrait(SlowWells x) {
        List<Long> seen = new ArrayList<>();
        look(x, seen);
        lookAtTapes(x, seen);
        lookAtNext(x, seen);
        seen.add((long) x.undo());
        look(x, seen);
        long[] all = new long[seen.size()];
        for (int i = 0; i < all.length; i++) {
            all[i] = seen.get(i);
        }
        return all;
    }

    private static void look(SlowWells x, List<Long> seen) {
        for (int i = 0; i <= 6; i++) {
            seen.add((long) x.count(i));
            seen.add((long) x.trace(i));
        }
        for (int what : new int[] {0, 1, 2, 3, 10, 11, 20, 21, 30, 31, 32}) {
            seen.add((long) x.of(what));
        }
        for (int well = 0; well <= 1; well++) {
            for (int hour : new int[] {0, 3, 6, 25, 27}) {
                seen.add((long) x.holds(well, hour));
            }
        }
        for (int c = 0; c <= 5; c++) {
            for (int what : new int[] {OVER, LOST, WORTH, STAND, WATER + 1}) {
                seen.add((long) x.would(c, what));
            }
        }
        for (int what : new int[] {0, 1, 2, 3, 4, 5, 10, 11, 12}) {
            seen.add((long) x.all(what));
        }
        seen.add((long) x.gone(0, OVER));
        seen.add((long) x.gone(0, STAND));
        seen.add((long) x.gone(0, STAND + 1));
        seen.add((long) x.ever(7));
        seen.add((long) x.drinks(1, 5, 2));
        seen.add((long) x.dig(1, 5, 5, 1));
        seen.add(x.likely(2, 0));
        seen.add(x.likely(2, 1));
        for (int well = 0; well <= 4; well++) {
            int before = x.odds(well, 0);
            seen.add((long) before);
            x.odds(well, before);
        }
    }

    private static void lookAtTapes(SlowWells x, List<Long> seen) {
        for (int tape = 0; tape <= 5; tape++) {
            for (int i : new int[] {0, 1, 2, 3, 4, 5, 59}) {
                seen.add(x.read(tape, i));
            }
            // a number that each sort cuts off in its own way
            seen.add((long) x.item(tape, 0, 0x123456789abcdefL));
            seen.add(x.read(tape, 0));
        }
    }

    private static void lookAtNext(SlowWells x, List<Long> seen) {
        for (int rule = 0; rule <= 9; rule++) {
            seen.add((long) x.taken(rule, 0));
            seen.add((long) x.act(rule, 2, 5));
        }
        seen.add((long) x.row(2, 6));
        seen.add((long) x.would(2, STAND));
        seen.add((long) x.would(2, STAND + 1));
        seen.add((long) x.rule(TOLD, 2));
        seen.add((long) x.caravan(5, 7, 1));
        seen.add((long) x.several(2));
        seen.add((long) x.hand(6));
        for (String text : new String[] {"y 9", "carry 77"}) {
            for (char c : text.toCharArray()) {
                seen.add((long) x.feed(c, 1));
            }
            seen.add((long) x.waste());
        }
        seen.add((long) x.of(1));
    }

    private static SlowWells played(Scene scene) {
        SlowWells x = new SlowWells();
        scene.play(x);
        return x;
    }

    private static boolean differ(long[] one, long[] other) {
        boolean differ = one.length != other.length;
        for (int i = 0; i < one.length && i < other.length; i++) {
            differ |= one[i] != other[i];
        }
        return differ;
    }

    /** Each call is made on a new object; then it is compared with one on which it was not made. */
    private static void changeNothing(Scene scene, List<Named> calls) {
        long[] as = portrait(played(scene));
        for (Named n : calls) {
            SlowWells x = played(scene);
            due(n.name, n.call.of(x), n.want);
            due("whether " + n.name + " changed something", differ(portrait(x), as) ? 1 : 0, 0);
        }
    }

    /** The checks of these tests are worth something only if a portrait shows each change. */
    private static void portraitsTell() {
        says("Answers", "What is answered so changes nothing; what is asked changes nothing.");
        Asked[] changes = {x -> x.feed(';', 1), x -> x.waste(), x -> x.odds(2, 1), x -> x.rule(0, 0), x -> x.row(2, 4),
            x -> x.caravan(1, 0, 0), x -> x.goes(2), x -> x.hand(2), x -> x.hand(-1), x -> x.several(0),
            x -> x.several(-1), x -> x.image(), x -> x.undo(), x -> x.act(0, 0, 0), x -> x.act(9, 9, 9),
            x -> x.tape(0, 2, 4), x -> x.tape(0, 3, 3), x -> x.tape(0, -1, 0), x -> x.item(0, 0, 1),
            x -> x.shift(0, 1, 0, 0, 1)};
        long[] as = portrait(played(RefusalsTest::some));
        due("whether the same is the same", differ(portrait(played(RefusalsTest::some)), as) ? 1 : 0, 0);
        for (int i = 0; i < changes.length; i++) {
            SlowWells x = played(RefusalsTest::some);
            changes[i].of(x);
            due("whether change " + i + " shows", differ(portrait(x), as) ? 1 : 0, 1);
        }
    }

    private static void refusedWithNoWaste() {
        says("Answers", "STATE (-3) as told (no WASTE)");
        changeNothing(RefusalsTest::noWaste, List.of(
            new Named("of(0)", STATE, x -> x.of(0)),
            new Named("of(35)", STATE, x -> x.of(35)),
            new Named("holds(0, 0)", STATE, x -> x.holds(0, 0)),
            new Named("drinks(0, 0, 1)", STATE, x -> x.drinks(0, 0, 1)),
            new Named("ever(0)", STATE, x -> x.ever(0)),
            new Named("would(0, 0)", STATE, x -> x.would(0, 0)),
            new Named("goes(0)", STATE, x -> x.goes(0)),
            new Named("gone(0, 0)", STATE, x -> x.gone(0, 0)),
            new Named("size(0, 0, 0)", STATE, x -> x.size(0, 0, 0)),
            new Named("all(0)", STATE, x -> x.all(0)),
            new Named("all(10)", STATE, x -> x.all(10)),
            new Named("likely(0, 0)", NO, x -> x.likely(0, 0)),
            new Named("dig(0, 1, 1, 0)", STATE, x -> x.dig(0, 1, 1, 0)),
            new Named("judge(0, 0, 0)", STATE, x -> x.judge(0, 0, 0)),
            new Named("judge(1, 0, 0)", STATE, x -> x.judge(1, 0, 0)),
            new Named("undo()", STATE, x -> x.undo())));
        changeNothing(x -> { }, List.of(
            new Named("goes(0)", NONE, x -> x.goes(0)),
            new Named("several(0)", NONE, x -> x.several(0)),
            new Named("several(-1)", 0, x -> x.several(-1)),
            new Named("hand(-1)", 0, x -> x.hand(-1)),
            new Named("feed(1, 0)", 0, x -> x.feed(1, 0)),
            new Named("waste()", -10, x -> x.waste()),
            new Named("act(0, 0, 5)", 0, x -> x.act(0, 0, 5)),
            new Named("tape(0, -1, 5)", 1, x -> x.tape(0, -1, 5)),
            new Named("undo()", STATE, x -> x.undo())));
    }

    private static void refusedWithSome() {
        says("Answers", "NONE (-1) no such number (0 .. 4 of WELLS, 0 .. 5 of WAYS");
        changeNothing(RefusalsTest::some, List.of(
            new Named("of(4)", NONE, x -> x.of(4)),
            new Named("of(12)", NONE, x -> x.of(12)),
            new Named("of(33)", NONE, x -> x.of(33)),
            new Named("holds(5, 0)", NONE, x -> x.holds(5, 0)),
            new Named("holds(2, 0)", NONE, x -> x.holds(2, 0)),
            new Named("drinks(6, 0, 1)", NONE, x -> x.drinks(6, 0, 1)),
            new Named("drinks(3, 0, 1)", NONE, x -> x.drinks(3, 0, 1)),
            new Named("odds(5, 1)", NONE, x -> x.odds(5, 1)),
            new Named("odds(-1, 1)", NONE, x -> x.odds(-1, 1)),
            new Named("rule(7, 0)", NONE, x -> x.rule(7, 0)),
            new Named("row(4, 0)", NONE, x -> x.row(4, 0)),
            new Named("caravan(1, 0, 4)", NONE, x -> x.caravan(1, 0, 4)),
            new Named("would(3, 0)", NONE, x -> x.would(3, 0)),
            new Named("would(0, 3)", NONE, x -> x.would(0, 3)),
            new Named("would(0, 12)", NONE, x -> x.would(0, 12)),
            new Named("goes(3)", NONE, x -> x.goes(3)),
            new Named("goes(-1)", NONE, x -> x.goes(-1)),
            new Named("gone(3, 0)", NONE, x -> x.gone(3, 0)),
            new Named("gone(0, 15)", NONE, x -> x.gone(0, 15)),
            new Named("size(0, 4, 0)", NONE, x -> x.size(0, 4, 0)),
            new Named("size(0, 0, 2)", NONE, x -> x.size(0, 0, 2)),
            new Named("several(3)", NONE, x -> x.several(3)),
            new Named("several(-2)", NONE, x -> x.several(-2)),
            new Named("all(6)", NONE, x -> x.all(6)),
            new Named("all(12)", NONE, x -> x.all(12)),
            new Named("likely(3, 0)", NO, x -> x.likely(3, 0)),
            new Named("likely(0, 2)", NO, x -> x.likely(0, 2)),
            new Named("dig(3, 1, 1, 0)", NONE, x -> x.dig(3, 1, 1, 0)),
            new Named("dig(0, 1, 1, 2)", NONE, x -> x.dig(0, 1, 1, 2)),
            new Named("judge(6, 0, 0)", NONE, x -> x.judge(6, 0, 0)),
            new Named("judge(0, 0, 3)", NONE, x -> x.judge(0, 0, 3)),
            new Named("trace(9)", NONE, x -> x.trace(9)),
            new Named("tape(6, 0, 1)", NONE, x -> x.tape(6, 0, 1)),
            new Named("item(6, 0, 1)", NONE, x -> x.item(6, 0, 1)),
            new Named("read(6, 0)", NO, x -> x.read(6, 0)),
            new Named("shift(0, 0, 6, 0, 1)", NONE, x -> x.shift(0, 0, 6, 0, 1))));
        says("Answers", "BAD (-2) a number is not as told");
        changeNothing(RefusalsTest::some, List.of(
            new Named("feed(120, 5)", BAD, x -> x.feed(120, 5)),
            new Named("feed(120, -1)", BAD, x -> x.feed(120, -1)),
            new Named("holds(0, 1000)", BAD, x -> x.holds(0, 1000)),
            new Named("drinks(0, 1000, 1)", BAD, x -> x.drinks(0, 1000, 1)),
            new Named("drinks(0, 0, 10)", BAD, x -> x.drinks(0, 0, 10)),
            new Named("odds(0, 11)", BAD, x -> x.odds(0, 11)),
            new Named("odds(0, -1)", BAD, x -> x.odds(0, -1)),
            new Named("ever(1000)", BAD, x -> x.ever(1000)),
            new Named("rule(0, 7)", BAD, x -> x.rule(0, 7)),
            new Named("row(2, 7)", BAD, x -> x.row(2, 7)),
            new Named("row(2, -1)", BAD, x -> x.row(2, -1)),
            new Named("caravan(0, 0, 0)", BAD, x -> x.caravan(0, 0, 0)),
            new Named("caravan(1, 100, 0)", BAD, x -> x.caravan(1, 100, 0)),
            new Named("hand(7)", BAD, x -> x.hand(7)),
            new Named("hand(-2)", BAD, x -> x.hand(-2)),
            new Named("size(100, 0, 0)", BAD, x -> x.size(100, 0, 0)),
            new Named("dig(0, 100, 1, 0)", BAD, x -> x.dig(0, 100, 1, 0)),
            new Named("dig(0, 1, 100, 0)", BAD, x -> x.dig(0, 1, 100, 0)),
            new Named("taken(0, 7)", BAD, x -> x.taken(0, 7)),
            new Named("count(7)", BAD, x -> x.count(7)),
            new Named("tape(0, 5, 1)", BAD, x -> x.tape(0, 5, 1)),
            new Named("tape(0, 2, 61)", BAD, x -> x.tape(0, 2, 61))));
        says("Terms 4", "The host's refusals: NOTHING (-11): nothing is there; CAST (-12): another sort or KIND; PLACE (-13): no such place; SIZE (-14): a size below 0.");
        changeNothing(RefusalsTest::some, List.of(
            new Named("row(0, 1)", STATE, x -> x.row(0, 1)),
            new Named("judge(1, 0, 0)", CAST, x -> x.judge(1, 0, 0)),
            new Named("taken(4, 0)", NOTHING, x -> x.taken(4, 0)),
            new Named("taken(0, 1)", CAST, x -> x.taken(0, 1)),
            new Named("tape(0, 2, -1)", SIZE, x -> x.tape(0, 2, -1)),
            new Named("tape(5, 0, -1)", SIZE, x -> x.tape(5, 0, -1)),
            new Named("item(5, 0, 1)", NOTHING, x -> x.item(5, 0, 1)),
            new Named("item(0, 3, 1)", PLACE, x -> x.item(0, 3, 1)),
            new Named("item(0, -1, 1)", PLACE, x -> x.item(0, -1, 1)),
            new Named("read(5, 0)", NO, x -> x.read(5, 0)),
            new Named("read(0, 3)", NO, x -> x.read(0, 3)),
            new Named("shift(0, 0, 5, 0, 1)", NOTHING, x -> x.shift(0, 0, 5, 0, 1)),
            new Named("shift(0, 0, 1, 0, 1)", CAST, x -> x.shift(0, 0, 1, 0, 1)),
            new Named("shift(0, 1, 0, 0, 3)", PLACE, x -> x.shift(0, 1, 0, 0, 3)),
            new Named("shift(0, 0, 0, 1, 3)", PLACE, x -> x.shift(0, 0, 0, 1, 3))));
    }

    private static void refusedAtTheMost() {
        says("Answers", "FULL (-4)");
        changeNothing(RefusalsTest::most, List.of(
            new Named("feed(120, 1)", FULL, x -> x.feed(120, 1)),
            new Named("feed(120, 4)", FULL, x -> x.feed(120, 4)),
            new Named("waste()", FULL, x -> x.waste()),
            new Named("rule(0, 0)", FULL, x -> x.rule(0, 0)),
            new Named("row(2, 6)", FULL, x -> x.row(2, 6)),
            new Named("caravan(1, 0, 0)", FULL, x -> x.caravan(1, 0, 0)),
            new Named("hand(6)", FULL, x -> x.hand(6)),
            new Named("several(0)", FULL, x -> x.several(0)),
            new Named("feed(120, 5)", BAD, x -> x.feed(120, 5)),
            new Named("rule(0, 7)", BAD, x -> x.rule(0, 7)),
            new Named("hand(7)", BAD, x -> x.hand(7)),
            new Named("several(6)", NONE, x -> x.several(6))));
    }

    private static void firstWithNoWaste() {
        says("Answers", "the first that a call's words name");
        changeNothing(RefusalsTest::noWaste, List.of(
            new Named("of(4): NONE ahead of STATE", NONE, x -> x.of(4)),
            new Named("of(15): NONE ahead of STATE", NONE, x -> x.of(15)),
            new Named("of(36): NONE ahead of STATE", NONE, x -> x.of(36)),
            new Named("of(14): STATE ahead of a WELL that is not there", STATE, x -> x.of(14)),
            new Named("holds(5, 1000): NONE ahead of BAD, STATE", NONE, x -> x.holds(5, 1000)),
            new Named("holds(5, 0): NONE ahead of STATE", NONE, x -> x.holds(5, 0)),
            new Named("holds(0, 1000): BAD ahead of STATE", BAD, x -> x.holds(0, 1000)),
            new Named("holds(4, 0): STATE ahead of a WELL that is not there", STATE, x -> x.holds(4, 0)),
            new Named("drinks(6, 1000, 0): NONE ahead of BAD, STATE", NONE, x -> x.drinks(6, 1000, 0)),
            new Named("drinks(6, 0, 1): NONE ahead of STATE", NONE, x -> x.drinks(6, 0, 1)),
            new Named("drinks(0, 1000, 1): BAD ahead of STATE", BAD, x -> x.drinks(0, 1000, 1)),
            new Named("drinks(0, 0, 0): BAD ahead of STATE", BAD, x -> x.drinks(0, 0, 0)),
            new Named("drinks(5, 0, 1): STATE ahead of a WAY that is not there", STATE, x -> x.drinks(5, 0, 1)),
            new Named("ever(1000): BAD ahead of STATE", BAD, x -> x.ever(1000)),
            new Named("would(3, 0): NONE ahead of STATE", NONE, x -> x.would(3, 0)),
            new Named("would(0, 3): NONE ahead of STATE", NONE, x -> x.would(0, 3)),
            new Named("would(0, 14): STATE ahead of a WELL that is not there", STATE, x -> x.would(0, 14)),
            new Named("goes(3): NONE ahead of STATE", NONE, x -> x.goes(3)),
            new Named("gone(3, 0): NONE ahead of STATE", NONE, x -> x.gone(3, 0)),
            new Named("gone(0, 25): NONE ahead of STATE", NONE, x -> x.gone(0, 25)),
            new Named("gone(0, 24): STATE ahead of a WELL that is not there", STATE, x -> x.gone(0, 24)),
            new Named("size(0, 4, 0): NONE ahead of STATE", NONE, x -> x.size(0, 4, 0)),
            new Named("size(0, 0, 2): NONE ahead of STATE", NONE, x -> x.size(0, 0, 2)),
            new Named("size(100, 0, 0): BAD ahead of STATE", BAD, x -> x.size(100, 0, 0)),
            new Named("all(6): NONE ahead of STATE", NONE, x -> x.all(6)),
            new Named("all(11), one in SEVERAL: NONE ahead of STATE", NONE, x -> x.all(11)),
            new Named("dig(3, 0, 0, 0): NONE ahead of STATE", NONE, x -> x.dig(3, 0, 0, 0)),
            new Named("dig(0, 0, 0, 2): NONE ahead of STATE", NONE, x -> x.dig(0, 0, 0, 2)),
            new Named("dig(0, 100, 0, 0): BAD ahead of STATE", BAD, x -> x.dig(0, 100, 0, 0)),
            new Named("dig(0, 0, 100, 0): BAD ahead of STATE", BAD, x -> x.dig(0, 0, 100, 0)),
            new Named("judge(6, 0, 0): NONE ahead of STATE", NONE, x -> x.judge(6, 0, 0)),
            new Named("judge(0, 0, 3): NONE ahead of STATE", NONE, x -> x.judge(0, 0, 3)),
            new Named("judge(1, 0, 0): STATE ahead of CAST", STATE, x -> x.judge(1, 0, 0))));
    }

    private static void firstWithSome() {
        says("Answers", "the first that a call's words name");
        changeNothing(RefusalsTest::some, List.of(
            new Named("holds(4, 1000): BAD ahead of a WELL that is not there", BAD, x -> x.holds(4, 1000)),
            new Named("drinks(5, 0, 10): BAD ahead of a WAY that is not there", BAD, x -> x.drinks(5, 0, 10)),
            new Named("odds(5, 11): NONE ahead of BAD", NONE, x -> x.odds(5, 11)),
            new Named("rule(7, 7): NONE ahead of BAD", NONE, x -> x.rule(7, 7)),
            new Named("row(4, 7): NONE ahead of BAD", NONE, x -> x.row(4, 7)),
            new Named("row(0, 7): BAD ahead of STATE", BAD, x -> x.row(0, 7)),
            new Named("caravan(0, 0, 4): NONE ahead of BAD", NONE, x -> x.caravan(0, 0, 4)),
            new Named("caravan(1, 100, 4): NONE ahead of BAD", NONE, x -> x.caravan(1, 100, 4)),
            new Named("size(100, 4, 0): NONE ahead of BAD", NONE, x -> x.size(100, 4, 0)),
            new Named("size(100, 0, 2): NONE ahead of BAD", NONE, x -> x.size(100, 0, 2)),
            new Named("dig(3, 100, 0, 0): NONE ahead of BAD", NONE, x -> x.dig(3, 100, 0, 0)),
            new Named("dig(0, 0, 100, 2): NONE ahead of BAD", NONE, x -> x.dig(0, 0, 100, 2)),
            new Named("judge(1, 0, 3): NONE ahead of CAST", NONE, x -> x.judge(1, 0, 3)),
            new Named("judge(1, -1, 0): CAST ahead of 100", CAST, x -> x.judge(1, -1, 0)),
            new Named("taken(4, 7): BAD ahead of NOTHING", BAD, x -> x.taken(4, 7)),
            new Named("taken(0, 7): BAD ahead of CAST", BAD, x -> x.taken(0, 7)),
            new Named("tape(6, 5, 0): NONE ahead of BAD", NONE, x -> x.tape(6, 5, 0)),
            new Named("tape(6, 0, 61): NONE ahead of BAD", NONE, x -> x.tape(6, 0, 61)),
            new Named("tape(6, 0, -1): NONE ahead of SIZE", NONE, x -> x.tape(6, 0, -1)),
            new Named("tape(0, 5, -1): BAD ahead of SIZE", BAD, x -> x.tape(0, 5, -1)),
            new Named("item(6, -1, 0): NONE ahead of NOTHING, PLACE", NONE, x -> x.item(6, -1, 0)),
            new Named("item(5, -1, 0): NOTHING ahead of PLACE", NOTHING, x -> x.item(5, -1, 0)),
            new Named("shift(5, 0, 6, 0, 0): NONE ahead of NOTHING", NONE, x -> x.shift(5, 0, 6, 0, 0)),
            new Named("shift(-1, 0, 5, 0, 0): NONE ahead of NOTHING", NONE, x -> x.shift(-1, 0, 5, 0, 0)),
            new Named("shift(0, -1, 6, 0, 0): NONE ahead of PLACE", NONE, x -> x.shift(0, -1, 6, 0, 0)),
            new Named("shift(0, -1, 5, 0, 0): NOTHING ahead of PLACE", NOTHING, x -> x.shift(0, -1, 5, 0, 0)),
            new Named("shift(0, -1, 1, 0, 0): CAST ahead of PLACE", CAST, x -> x.shift(0, -1, 1, 0, 0))));
    }

    private static void firstAtTheMost() {
        says("Answers", "the first that a call's words name");
        changeNothing(RefusalsTest::most, List.of(
            new Named("feed(0, 5): BAD ahead of FULL", BAD, x -> x.feed(0, 5)),
            new Named("feed(0, -1): BAD ahead of FULL", BAD, x -> x.feed(0, -1)),
            new Named("waste(): FULL ahead of the FAULT", FULL, x -> x.waste()),
            new Named("rule(7, 0): NONE ahead of FULL", NONE, x -> x.rule(7, 0)),
            new Named("rule(0, 7): BAD ahead of FULL", BAD, x -> x.rule(0, 7)),
            new Named("row(10, 0): NONE ahead of FULL", NONE, x -> x.row(10, 0)),
            new Named("row(2, 7): BAD ahead of FULL", BAD, x -> x.row(2, 7)),
            new Named("row(0, 0): STATE", STATE, x -> x.row(0, 0)),
            new Named("caravan(1, 0, 10): NONE ahead of FULL", NONE, x -> x.caravan(1, 0, 10)),
            new Named("caravan(10, 0, 0): BAD ahead of FULL", BAD, x -> x.caravan(10, 0, 0)),
            new Named("caravan(1, -1, 0): BAD ahead of FULL", BAD, x -> x.caravan(1, -1, 0)),
            new Named("hand(7): BAD ahead of FULL", BAD, x -> x.hand(7)),
            new Named("several(6): NONE ahead of FULL", NONE, x -> x.several(6)),
            new Named("several(-2): NONE ahead of FULL", NONE, x -> x.several(-2))));
        SlowWells x = played(RefusalsTest::most);
        due("hand(-1) is never FULL", x.hand(-1), 0);
        due("several(-1) is never FULL", x.several(-1), 0);
        due("feed(0, 0) is never FULL", x.feed(0, 0), 100);
    }

    private static void asked() {
        says("Answers", "what is asked changes nothing.");
        List<Named> calls = new ArrayList<>();
        for (int c = 0; c <= 2; c++) {
            int its = c;
            for (int what : new int[] {OVER, LOST, WORTH, STAND + 1, WATER}) {
                calls.add(asking("would", x -> x.would(its, what)));
                calls.add(asking("gone", x -> x.gone(its, what)));
            }
            calls.add(asking("likely", x -> x.likely(its, 0)));
            calls.add(asking("dig", x -> x.dig(its, 99, 9, 0)));
            calls.add(asking("judge", x -> x.judge(0, 0, its)));
            calls.add(asking("judge", x -> x.judge(5, 9, its)));
        }
        for (int what : new int[] {0, 1, 2, 3, 4, 5, 10, 11}) {
            calls.add(asking("all", x -> x.all(what)));
        }
        for (int rule = 0; rule <= 3; rule++) {
            int its = rule;
            calls.add(asking("size", x -> x.size(0, its, 0)));
            calls.add(asking("size", x -> x.size(9, its, 1)));
            calls.add(asking("taken", x -> x.taken(its, 0)));
        }
        calls.add(asking("of", x -> x.of(11)));
        calls.add(asking("holds", x -> x.holds(0, 999)));
        calls.add(asking("drinks", x -> x.drinks(2, 999, 9)));
        calls.add(asking("ever", x -> x.ever(999)));
        calls.add(asking("trace", x -> x.trace(1)));
        calls.add(asking("count", x -> x.count(6)));
        calls.add(asking("read", x -> x.read(2, 59)));
        for (Scene scene : new Scene[] {RefusalsTest::some, RefusalsTest::most}) {
            changeNothing(scene, wanting(scene, calls));
        }
    }

    private static Named asking(String name, Asked call) {
        return new Named(name, 0, call);
    }

    /** What the calls answer on another object with the same past. */
    private static List<Named> wanting(Scene scene, List<Named> calls) {
        List<Named> all = new ArrayList<>();
        for (Named n : calls) {
            all.add(new Named(n.name, n.call.of(played(scene)), n.call));
        }
        return all;
    }

    private static void manyCalls() {
        says("What it is", "An object is used for at most 512 calls after it has been made");
        SlowWells x = new SlowWells();
        waste(x, "well 99 1;way 1;way 1;drink 1 w=0;carry 2");
        x.rule(WAIT, 6);
        x.caravan(1, 0, 0);
        int made = 11 + 1 + 2;
        // one drinks 1 and draws 1 in each goes(): the WELL never gives, as all are there in HOUR 1
        for (int i = 1; i <= 99; i++) {
            due("goes(0)", x.goes(0), 2);
            made++;
        }
        due("the WELL is empty", x.holds(0, 1), 0);
        // from then on each stands an HOUR longer than the one before
        for (int i = 1; made < 511; i++) {
            due("goes(0)", x.goes(0), 2 + i);
            made++;
        }
        due("the 512th call", x.ever(1), 100);
        SlowWells y = new SlowWells();
        for (int i = 0; i < 511; i++) {
            due("count(5)", x.count(5), 0);
        }
        due("the 512th call", y.rule(0, 0), 0);
        SlowWells z = with("well 0 0;way 1;way 1;stand 0");
        z.rule(TOLD, 0);
        z.row(0, 6);
        z.caravan(1, 99, 0);
        for (int i = 1; i <= 490; i++) {
            due("6 HOURS more each time", z.goes(0), 101 + 6 * i);
        }
        due("ahead of the last drawing", z.holds(0, 999), 0);
    }

    private static void dearestCalls() {
        says("What it is", "An object is used for at most 512 calls after it has been made");
        Asked[] dear = {x -> x.likely(0, 1), x -> x.all(5), x -> x.size(0, 0, 0), x -> x.would(0, OVER),
            x -> x.goes(0), x -> x.judge(0, 0, 0)};
        for (Asked call : dear) {
            SlowWells x = dearScene(5);
            long first = call.of(x);
            for (int i = 0; i < 450; i++) {
                call.of(x);
            }
            due("the first answer was one", first >= 0 || first == NOT ? 1 : 0, 1);
        }
        SlowWells d = dearScene(4);
        long place = d.dig(0, 50, 1, 0);
        for (int i = 0; i < 450; i++) {
            due("dig", d.dig(0, 50, 1, 0), place);
        }
    }

    private static SlowWells dearScene(int wells) {
        SlowWells x = with(times(wells, "well 30 1;") + times(wells + 1, "way 9;") + "drink 1 h<19");
        x.rule(BEST, 6);
        for (int i = 0; i < 3; i++) {
            x.caravan(1 + i, i, 0);
            x.several(i);
        }
        for (int k = 0; k < 5; k++) {
            x.odds(k, 5);
        }
        x.tape(0, 2, 5);
        return x;
    }
}
