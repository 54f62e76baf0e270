/** Boundary cases of CARAVANS, WELLS, RULES, BEST and the ROW told by hand: promises 9 to 15. */
public final class TripEdgesTest extends Sentences {
    public static void main(String[] args) {
        rules();
        rows();
        caravans();
        water();
        drinking();
        standing();
        lost();
        rightBefore();
        rightBeforeAndRules();
        drawing();
        filling();
        over();
        plain();
        waits();
        waitAsides();
        nights();
        darks();
        told();
        best();
        bestAndStanding();
        bestOfSeveral();
        worth();
        would();
        goes();
        hand();
        gone();
        end();
    }

    private static void rules() {
        says("Promise 9", "A RULE: its number. NONE: kind; BAD: v; FULL: 10.");
        SlowWells x = new SlowWells();
        each("rule(kind, 0)", kind -> x.rule(kind, 0), NONE, outside(0, 6));
        each("rule(kind, 7)", kind -> x.rule(kind, 7), NONE, outside(0, 6));
        says("Terms 1", "Each has a number v (0 .. 6)");
        for (int kind = 0; kind <= 6; kind++) {
            int its = kind;
            each("rule(" + kind + ", v)", v -> x.rule(its, v), BAD, outside(0, 6));
        }
        due("count(1)", x.count(1), 0);
        says("Terms 1", "RULES, numbered 0 .. 9, as they come, of KINDS");
        int[][] tens = {{6, 6}, {0, 0}, {6, 0}, {0, 6}, {1, 5}, {2, 4}, {3, 3}, {4, 2}, {5, 1}, {3, 3}};
        for (int i = 0; i < 10; i++) {
            due("rule", x.rule(tens[i][0], tens[i][1]), i);
            due("count(1)", x.count(1), i + 1);
            due("its KIND", x.taken(i, 0), tens[i][0]);
        }
        due("an eleventh", x.rule(0, 0), FULL);
        due("count(1)", x.count(1), 10);
        due("taken(10, 0)", x.taken(10, 0), NOTHING);
        each("NONE ahead of FULL", kind -> x.rule(kind, 0), NONE, outside(0, 6));
        each("BAD ahead of FULL", v -> x.rule(0, v), BAD, outside(0, 6));
    }

    private static void rows() {
        says("Promise 10", "NONE; BAD; STATE: it is no TOLD one; FULL: 5.");
        SlowWells x = new SlowWells();
        each("row(rule, 0)", rule -> x.row(rule, 0), NONE, LOW, -1, 0, 9, HIGH);
        for (int kind = 0; kind <= 6; kind++) {
            x.rule(kind, 6);
        }
        each("row(rule, 7)", rule -> x.row(rule, 7), NONE, outside(0, 6));
        for (int kind = 0; kind <= 6; kind++) {
            int rule = kind;
            each("row(" + kind + ", n)", n -> x.row(rule, n), BAD, outside(0, 6));
            if (kind != TOLD) {
                each("row(" + kind + ", n)", n -> x.row(rule, n), STATE, 0, 6);
            }
        }
        says("Promise 10", "A number (0 .. 6) comes to the ROW of a TOLD RULE: how many.");
        int[] stands = {6, 0, 1, 5, 3};
        for (int i = 0; i < 5; i++) {
            due("row(3, n)", x.row(TOLD, stands[i]), i + 1);
        }
        each("row(3, n) of 5", n -> x.row(TOLD, n), FULL, 0, 6);
        each("BAD ahead of FULL", n -> x.row(TOLD, n), BAD, outside(0, 6));
        x.rule(TOLD, 0);
        due("another's", x.row(7, 2), 1);
        waste(x, "carry 0" + times(5, ";well 1 1"));
        x.caravan(1, 0, TOLD);
        x.caravan(1, 0, 7);
        for (int k = 0; k < 5; k++) {
            due("stand at " + k, x.would(0, STAND + k), stands[k]);
            due("another's stand at " + k, x.would(1, STAND + k), k == 0 ? 2 : 0);
        }
    }

    private static void caravans() {
        says("Promise 11", "A CARAVAN: its number. NONE: rule; BAD: beasts, start; FULL: 6.");
        SlowWells x = new SlowWells();
        each("caravan(1, 0, rule)", rule -> x.caravan(1, 0, rule), NONE, LOW, -1, 0, 1, 9, HIGH);
        x.rule(RULE, 0);
        x.rule(RULE, 0);
        each("caravan(0, 100, rule)", rule -> x.caravan(0, 100, rule), NONE, outside(0, 1));
        each("caravan(beasts, 0, 0)", beasts -> x.caravan(beasts, 0, 0), BAD, outside(1, 9));
        each("caravan(1, start, 0)", start -> x.caravan(1, start, 0), BAD, outside(0, 99));
        due("count(2)", x.count(2), 0);
        says("Terms 1", "BEASTS (1 .. 9), a START (HOUR 0 .. 99), a RULE");
        int[][] six = {{1, 0, 0}, {9, 99, 1}, {1, 99, 0}, {9, 0, 1}, {5, 50, 0}, {2, 1, 1}};
        for (int i = 0; i < 6; i++) {
            due("caravan", x.caravan(six[i][0], six[i][1], six[i][2]), i);
            due("count(2)", x.count(2), i + 1);
        }
        due("a seventh", x.caravan(1, 0, 0), FULL);
        due("count(2)", x.count(2), 6);
        each("NONE ahead of FULL", rule -> x.caravan(1, 0, rule), NONE, outside(0, 1));
        each("BAD ahead of FULL", beasts -> x.caravan(beasts, 0, 0), BAD, outside(1, 9));
        each("BAD ahead of FULL", start -> x.caravan(1, start, 0), BAD, outside(0, 99));
        waste(x, "way 1;load 7");
        for (int i = 0; i < 6; i++) {
            due("START of " + i, x.would(i, OVER), six[i][1] + 1);
            due("BEASTS of " + i, x.would(i, WORTH), 7 * six[i][0]);
        }
    }

    /** CARAVANS 0, 1 .. of RULE 0 with so many BEASTS each, all from HOUR 0 on. */
    private static SlowWells withBeasts(String text, int... beasts) {
        SlowWells x = with(text);
        x.rule(RULE, 0);
        for (int b : beasts) {
            x.caravan(b, 0, 0);
        }
        return x;
    }

    private static void water() {
        says("Terms 1", "It starts with as much WATER as it carries: carry for each BEAST.");
        SlowWells x = withBeasts("way 9;drink 1 h<24;carry 9", 1, 9);
        due("just enough for 1", x.would(0, OVER), 9);
        due("just enough for 9", x.would(1, OVER), 9);
        SlowWells y = withBeasts("way 9;drink 1 h<24;carry 8", 1, 9);
        due("one too little for 1", y.would(0, OVER), NOT);
        due("one too little for 9", y.would(1, OVER), NOT);
        SlowWells z = withBeasts("well 0 0;way 1;way 1;drink 1 w=0;carry 5", 1, 9);
        due("WATER of 1", z.would(0, WATER), 4);
        due("WATER of 9", z.would(1, WATER), 36);
        SlowWells n = withBeasts("well 9 9;carry 0", 1, 9);
        due("none carried, none drunk", n.would(0, OVER), 6);
        due("WATER of 9 that carry none", n.would(1, WATER), 0);
        n.goes(1);
        due("they draw none", n.holds(0, 3), 9);
        SlowWells d = withBeasts("carry 0;drink 1 h=2", 1);
        due("none carried, 1 drunk", d.would(0, OVER), NOT);
        SlowWells m = withBeasts("well 0 0;way 1;carry 99", 9);
        due("the most there is", m.would(0, WATER), 891);
    }

    private static void drinking() {
        says("Terms 1", "In each HOUR on a WAY each BEAST drinks the n of all drink whose E holds, together");
        // HOURS 0, 1 and 2: for one beast 0, 1 + 2 and 2; for two 4 more in each
        SlowWells x = withBeasts("well 0 0;way 3;way 1;drink 1 h=1;drink 2 h>0;drink 4 b=2;drink 9 h=3;carry 50", 1, 2);
        due("WATER of 1", x.would(0, WATER), 45);
        due("WATER of 2", x.would(1, WATER), 66);
        SlowWells y = with("well 0 0;way 2;way 9;drink 1 h=23;drink 3 h=0;drink 8 h=1;drink 20 h=22;carry 90");
        y.rule(RULE, 0);
        y.caravan(1, 23, 0);
        y.caravan(1, 47, 0);
        y.caravan(1, 22, 0);
        y.caravan(1, 24, 0);
        due("over midnight", y.would(0, WATER), 86);
        due("over the next midnight", y.would(1, WATER), 86);
        due("to midnight", y.would(2, WATER), 69);
        due("from midnight on", y.would(3, WATER), 79);
        longWays();
        says("Terms 1", "w (the WELL from which the WAY goes; 0 before the first, i + 1 behind WELL i)");
        SlowWells w = withBeasts("well 0 0;well 0 0;way 1;way 1;way 1;drink 1 w=0;drink 2 w=1;drink 4 w=2;carry 7", 1);
        due("WATER at WELL 0", w.would(0, WATER), 6);
        due("WATER at WELL 1", w.would(0, WATER + 1), 4);
        due("to the end", w.would(0, OVER), 3);
        SlowWells v = withBeasts("well 0 0;well 0 0;way 1;way 1;way 1;drink 1 w=0;drink 2 w=1;drink 4 w=2;carry 6", 1);
        due("lost on the last", v.would(0, LOST), 2);
    }

    /** The longest WAYS, from each HOUR of the day on. */
    private static void longWays() {
        for (int start = 0; start < 48; start++) {
            SlowWells x = with("well 0 0;way 9;way 9;drink 1 h<24;drink 7 h=7;carry 99");
            x.rule(RULE, 0);
            x.caravan(1, start, 0);
            x.caravan(9, start, 0);
            int drunk = 9, then = 9;
            for (int hour = start; hour < start + 9; hour++) {
                drunk += hour % 24 == 7 ? 7 : 0;
                then += (hour + 9) % 24 == 7 ? 7 : 0;
            }
            due("WATER of 1 behind 9 HOURS from " + start, x.would(0, WATER), 99 - drunk);
            due("WATER of 9 behind 9 HOURS from " + start, x.would(1, WATER), 9 * (99 - drunk));
            SlowWells y = with("well 0 0;way 9;way 9;drink 1 h<24;drink 7 h=7;carry " + (drunk + then));
            y.rule(RULE, 0);
            y.caravan(9, start, 0);
            due("just enough from " + start, y.would(0, OVER), start + 18);
            SlowWells z = with("well 0 0;way 9;way 9;drink 1 h<24;drink 7 h=7;carry " + (drunk + then - 1));
            z.rule(RULE, 0);
            z.caravan(9, start, 0);
            due("one too little from " + start, z.would(0, LOST), 1);
        }
    }

    private static void standing() {
        says("Terms 1", "in each HOUR that it stands, stand");
        SlowWells x = withKinds(0, "well 0 0;well 0 0;way 1;way 1;way 1;stand 3;drink 9 h=1|h=2;carry 10");
        x.row(TOLD, 2);
        x.caravan(1, 0, TOLD);
        x.caravan(2, 0, TOLD);
        // it stands in HOURS 1 and 2, and no drink counts then
        due("WATER of 1", x.would(0, WATER + 1), 4);
        due("WATER of 2", x.would(1, WATER + 1), 8);
        due("OVER", x.would(0, OVER), 5);
        says("Terms 1", "Then it stands as long as its RULE says (0 .. 6 HOURS)");
        for (int stand = 0; stand <= 6; stand++) {
            SlowWells y = withKinds(0, "well 0 0;way 1;way 1;stand 1;carry 6");
            y.row(TOLD, stand);
            y.caravan(1, 0, TOLD);
            due("stands " + stand, y.would(0, STAND), stand);
            due("OVER", y.would(0, OVER), 2 + stand);
            due("OVER with one less", withLess(stand), stand == 0 ? 2 : NOT);
        }
    }

    /** OVER with one less carried than standing takes. */
    private static int withLess(int stand) {
        SlowWells x = withKinds(0, "well 0 0;way 1;way 1;stand 1;carry " + Math.max(0, stand - 1));
        x.row(TOLD, stand);
        x.caravan(1, 0, TOLD);
        return x.would(0, OVER);
    }

    private static void lost() {
        says("Terms 1", "If there is not enough, it is LOST: there and then (what it drew is gone).");
        // comes to WELL 0 with 5, draws 5, and needs 11 behind it
        SlowWells x = withBeasts("well 9 0;well 9 0;way 1;way 1;way 1;drink 5 w=0;drink 11 w=1;carry 10", 1);
        due("LOST on WAY 1", x.would(0, LOST), 1);
        due("goes(0)", x.goes(0), NOT);
        due("drawn from WELL 0", x.holds(0, 1), 4);
        due("WELL 1 was not come to", x.holds(1, 2), 9);
        SlowWells e = withBeasts("well 9 0;well 9 0;way 1;way 1;way 1;drink 5 w=0;drink 10 w=1;carry 10", 1);
        due("just enough for WAY 1", e.goes(0), 3);
        due("and fills up at WELL 1", e.holds(1, 2), 0);
        SlowWells f = withBeasts("well 9 0;way 9;drink 1 h=8;carry 0", 1);
        due("LOST on the last HOUR of WAY 0", f.goes(0), NOT);
        due("LOST on the last HOUR of WAY 0", f.would(0, LOST), 0);
        due("the WELL at its end is as it was", f.holds(0, 9), 9);
        SlowWells y = withKinds(0, "well 9 0;way 1;way 1;stand 3;carry 6");
        y.row(TOLD, 2);
        y.caravan(1, 0, TOLD);
        due("just enough to stand", y.goes(0), 4);
        due("drawn", y.holds(0, 3), 3);
        SlowWells z = withKinds(0, "well 9 0;way 1;way 1;stand 3;carry 5");
        z.row(TOLD, 2);
        z.caravan(1, 0, TOLD);
        due("not enough to stand", z.goes(0), NOT);
        due("nothing drawn", z.holds(0, 9), 9);
        z.caravan(1, 0, RULE);
        due("nobody drew there", z.would(1, OVER), 2);
    }

    private static void rightBefore() {
        says("Terms 1", "if somebody drew there in a later HOUR, it stands till that HOUR");
        SlowWells x = with("well 50 0;way 2;way 1;stand 1;drink 1 w=0;carry 5");
        x.rule(RULE, 0);
        for (int start : new int[] {10, 9, 11, 7, 6, 0}) {
            x.caravan(1, start, 0);
        }
        due("one draws in HOUR 12", x.goes(0), 13);
        due("of 50", x.holds(0, 12), 48);
        due("one HOUR ahead", x.would(1, OVER), 13);
        due("as it comes", x.would(1, WATER), 3);
        due("what its RULE says", x.would(1, STAND), 0);
        due("in that HOUR", x.would(0, OVER), 13);
        due("one HOUR behind", x.would(2, OVER), 14);
        due("just enough to stand till then", x.would(3, OVER), 13);
        due("not enough to stand till then", x.would(4, OVER), NOT);
        due("the WAY behind that", x.would(4, LOST), 1);
        due("as it came", x.would(4, WATER), 3);
        due("it never stood as its RULE says", x.would(4, STAND), NOT);
        due("far too early", x.would(5, LOST), 1);
        due("goes(1)", x.goes(1), 13);
        due("with 2 left it drew 3", x.holds(0, 12), 45);
        due("goes(2)", x.goes(2), 14);
        due("it drew 2 in HOUR 13", x.holds(0, 12), 43);
        due("now they stand till 13", x.would(1, OVER), 14);
        due("now they stand till 13", x.would(3, OVER), NOT);
        says("Terms 1", "somebody drew there");
        SlowWells y = with("well 9 0;well 9 0;way 1;way 1;way 1;drink 5 w=0;drink 9 w=1&b=1;carry 8");
        y.rule(RULE, 0);
        y.caravan(1, 9, 0);
        y.caravan(2, 0, 0);
        due("it is LOST on WAY 1 behind drawing in HOUR 10", y.goes(0), NOT);
        due("one stands till 10 at WELL 0, not at WELL 1", y.would(1, OVER), 12);
        // by our reading one who comes, and can carry no more, draws too: 0 (NOTES.md)
        SlowWells z = with("well 9 0;way 1;way 1");
        z.rule(RULE, 0);
        z.caravan(1, 9, 0);
        z.caravan(1, 0, 0);
        z.goes(0);
        due("0 was drawn in HOUR 10", z.would(1, OVER), 11);
    }

    private static void rightBeforeAndRules() {
        says("Terms 1", "it stands till that HOUR. Then it stands as long as its RULE says");
        // WELL 0 is emptied in HOUR 8 and gives 3 an HOUR; all that come in HOUR 5 stand till 8 first
        SlowWells x = withKinds(6, "well 9 3;way 1;way 1;drink 9 w=0;carry 10");
        x.row(TOLD, 2);
        x.caravan(9, 7, RULE);
        x.caravan(1, 4, RULE);
        x.caravan(1, 4, WAIT);
        x.caravan(1, 4, NIGHT);
        x.caravan(1, 4, TOLD);
        x.caravan(1, 4, LONG);
        x.goes(0);
        int[] stands = {0, 3, 4, 2, 4};
        for (int i = 0; i < 5; i++) {
            due("stand of " + (i + 1), x.would(i + 1, STAND), stands[i]);
            due("OVER of " + (i + 1), x.would(i + 1, OVER), 8 + stands[i] + 1);
        }
        // BEST goes on at once, for nothing is drunk behind WELL 0; DARK has but 1 of 10
        SlowWells y = withKinds(6, "well 9 3;way 1;way 1;drink 9 w=0;drink 8 w=1;carry 10");
        y.caravan(9, 7, RULE);
        y.caravan(1, 4, BEST);
        y.caravan(1, 4, DARK);
        y.goes(0);
        due("BEST needs 7 more: 3 HOURS", y.would(1, STAND), 3);
        due("BEST", y.would(1, OVER), 12);
        due("DARK", y.would(2, STAND), 0);
        due("DARK", y.would(2, LOST), 1);
        // DARK comes with 6 of 10, and has 4 when the HOUR of the drawing is there
        SlowWells z = withKinds(6, "well 9 3;way 1;way 1;drink 4 w=0;stand 1;carry 10");
        z.caravan(1, 7, RULE);
        z.caravan(1, 5, DARK);
        z.caravan(1, 6, DARK);
        z.goes(0);
        due("4 of 10", z.would(1, STAND), 0);
        due("5 of 10", z.would(2, STAND), 4);
    }

    private static void drawing() {
        says("Terms 1", "draws what the WELL holds then, as much as it can carry");
        int[][] cases = {{4, 0}, {5, 0}, {6, 1}, {0, 0}, {99, 94}};
        for (int[] c : cases) {
            SlowWells x = withBeasts("well " + c[0] + " 0;well 0 0;way 1;way 1;way 1;drink 5 w=0;carry 10", 1);
            due("goes(0)", x.goes(0), 3);
            due("left of " + c[0], x.holds(0, 1), c[1]);
            SlowWells y = withBeasts("well " + c[0] + " 0;well 0 0;way 1;way 1;way 1;drink 5 w=0;carry 10", 1);
            due("WATER behind it", y.would(0, WATER + 1), 5 + Math.min(5, c[0]));
        }
        SlowWells full = withBeasts("well 7 0;well 0 0;way 1;way 1;way 1;carry 10", 1);
        full.goes(0);
        due("it can carry no more", full.holds(0, 1), 7);
        SlowWells two = withBeasts("well 11 0;way 1;way 1;drink 5 w=0;carry 10", 2);
        two.goes(0);
        due("two BEASTS take 10", two.holds(0, 1), 1);
        says("Terms 1", "Then it stands as long as its RULE says (0 .. 6 HOURS), and draws what the WELL holds then");
        SlowWells z = withKinds(0, "well 9 1;well 0 0;way 1;way 1;way 1;drink 9 w=0;carry 10");
        z.row(TOLD, 6);
        z.caravan(9, 0, RULE);
        z.caravan(1, 0, TOLD);
        z.goes(0);
        due("emptied", z.holds(0, 1), 0);
        due("6 came in 6 HOURS", z.would(1, WATER + 1), 7);
    }

    private static void filling() {
        says("Terms 1", "GIVES for each HOUR since, but no more than FULL; (FULL at HOUR 0)");
        SlowWells x = withBeasts("well 20 2;way 2;way 1;drink 1 w=0&h=1;drink 4 w=0&h=0;carry 5", 1);
        due("holds(0, 0)", x.holds(0, 0), 20);
        due("holds(0, 999)", x.holds(0, 999), 20);
        x.goes(0);
        int[] wants = {15, 15, 15, 17, 19, 20, 20};
        for (int hour = 0; hour < wants.length; hour++) {
            due("holds(0, " + hour + ")", x.holds(0, hour), wants[hour]);
        }
        due("holds(0, 999)", x.holds(0, 999), 20);
        says("Terms 1", "A WELL holds at an HOUR what it held when somebody drew last (then less that)");
        x.goes(0);
        due("drawn from again in the same HOUR", x.holds(0, 2), 10);
        due("an HOUR behind", x.holds(0, 3), 12);
        x.caravan(1, 2, 0);
        x.goes(1);
        due("14 in HOUR 4, of which it needs none", x.holds(0, 4), 14);
        SlowWells none = withBeasts("well 9 0;way 1;way 1;drink 5 w=0;carry 5", 1);
        none.goes(0);
        due("GIVES 0", none.holds(0, 999), 4);
        SlowWells no = withBeasts("well 0 9;way 1;way 1;drink 5 w=0;carry 5", 1);
        due("FULL 0", no.holds(0, 0), 0);
        no.goes(0);
        due("FULL 0", no.holds(0, 999), 0);
        SlowWells fast = withBeasts("well 3 99;way 1;way 1;drink 5 w=0;carry 5", 1);
        fast.goes(0);
        due("emptied", fast.holds(0, 1), 0);
        due("FULL again, no more", fast.holds(0, 2), 3);
    }

    private static void over() {
        says("Terms 1", "It comes OVER at an HOUR.");
        SlowWells x = withKinds(0, "well 0 0" + times(4, ";well 0 0") + times(6, ";way 9"));
        for (int k = 0; k < 5; k++) {
            x.row(TOLD, 6);
        }
        x.caravan(1, 99, TOLD);
        x.caravan(1, 0, TOLD);
        due("the longest", x.would(0, OVER), 99 + 6 * 9 + 5 * 6);
        due("goes(0)", x.goes(0), 183);
        // it stands till HOUR 114 at WELL 0, and comes to each next one in the HOUR of the other's drawing
        due("one behind it", x.goes(1), 183 + 6);
        SlowWells y = withBeasts("way 0", 1);
        due("the shortest", y.would(0, OVER), 1);
    }

    private static void plain() {
        says("Terms 1", "RULE: 0.");
        SlowWells x = withKinds(6, "well 9 0;way 1;way 1;drink 9 w=0;carry 10");
        x.caravan(9, 0, RULE);
        due("STAND", x.would(0, STAND), 0);
        x.goes(0);
        due("at an empty WELL, v 6", x.would(0, STAND), 0);
    }

    /** An empty WELL, and WAIT and LONG come with 1 of 10. */
    private static void waitsAt(int full, int gives, int v, int wait, int longer) {
        SlowWells x = withKinds(v, "well " + full + " " + gives + ";way 1;way 1;drink 9 w=0;carry 10");
        x.caravan(9, 0, RULE);
        x.caravan(1, 0, WAIT);
        x.caravan(1, 0, LONG);
        x.goes(0);
        String of = " at an empty WELL, FULL " + full + ", GIVES " + gives + ", v " + v;
        due("WAIT" + of, x.would(1, STAND), wait);
        due("LONG" + of, x.would(2, STAND), longer);
    }

    private static void waits() {
        says("Terms 1", "WAIT: the fewest HOURS with which the WELL holds as much as it can carry more");
        waitsAt(9, 9, 6, 1, 2);
        waitsAt(9, 5, 6, 2, 3);
        waitsAt(9, 3, 6, 3, 4);
        waitsAt(9, 2, 6, 5, 6);
        waitsAt(10, 2, 6, 5, 6);
        waitsAt(20, 8, 6, 2, 3);
        says("Terms 1", "v at most. LONG: as WAIT, and 1 HOUR more (6 at most).");
        waitsAt(9, 3, 0, 0, 1);
        waitsAt(9, 3, 1, 1, 2);
        waitsAt(9, 3, 2, 2, 3);
        waitsAt(9, 3, 3, 3, 4);
        waitsAt(9, 3, 4, 3, 4);
        waitsAt(9, 2, 5, 5, 6);
        waitsAt(9, 1, 5, 5, 6);
        waitsAt(9, 1, 6, 6, 6);
        waitsAt(8, 8, 6, 6, 6);
        waitsAt(8, 8, 0, 0, 1);
        waitsAt(0, 0, 6, 6, 6);
        says("Terms 1", "as much as it can carry more");
        String[] fulls = {"well 9 1", "well 8 1", "well 0 0"};
        int[] wants = {0, 6, 6};
        for (int i = 0; i < 3; i++) {
            SlowWells x = withKinds(6, fulls[i] + ";way 1;way 1;drink 9 w=0;carry 10");
            x.caravan(1, 0, WAIT);
            x.caravan(1, 0, LONG);
            due("WAIT at a full " + fulls[i], x.would(0, STAND), wants[i]);
            due("LONG at a full " + fulls[i], x.would(1, STAND), Math.min(6, wants[i] + 1));
        }
        SlowWells y = withKinds(6, "well 0 0;way 1;way 1");
        y.caravan(1, 0, WAIT);
        y.caravan(1, 0, LONG);
        due("WAIT that can carry no more", y.would(0, STAND), 0);
        due("LONG that can carry no more", y.would(1, STAND), 1);
        SlowWells z = withKinds(6, "well 18 1;way 1;way 1;drink 9 w=0;carry 10");
        z.caravan(2, 0, WAIT);
        z.caravan(3, 0, WAIT);
        due("two BEASTS want 18", z.would(0, STAND), 0);
        due("three want 27", z.would(1, STAND), 6);
    }

    private static void waitAsides() {
        says("Terms 1", "what standing drinks aside");
        // 4 are wanted, 2 HOURS bring them; what is drunk in these does not count
        SlowWells x = withKinds(6, "well 9 2;way 1;way 1;drink 4 w=0;stand 1;carry 10");
        x.caravan(9, 0, RULE);
        x.caravan(1, 0, WAIT);
        x.caravan(1, 0, LONG);
        x.goes(0);
        due("emptied", x.holds(0, 1), 0);
        due("WAIT", x.would(1, STAND), 2);
        due("LONG", x.would(2, STAND), 3);
        due("drawn", x.goes(1), 4);
        due("6 - 2 and 4", x.holds(0, 3), 0);
    }

    private static void night(int v, int start, int want) {
        SlowWells x = withKinds(v, "well 0 0;way 1;way 1;carry 9");
        x.caravan(1, start, NIGHT);
        x.caravan(1, start, DARK);
        due("NIGHT in HOUR " + (start + 1) + ", v " + v, x.would(0, STAND), want);
        due("OVER", x.would(0, OVER), start + 2 + want);
        due("DARK, too", x.would(1, STAND), want);
    }

    private static void nights() {
        says("Terms 1", "NIGHT: till the HOUR modulo 24 is 12 or more, v at most.");
        night(6, 11, 0);
        night(6, 10, 1);
        night(6, 6, 5);
        night(6, 5, 6);
        night(6, 4, 6);
        night(6, 22, 0);
        night(6, 23, 6);
        night(6, 34, 1);
        night(6, 35, 0);
        night(6, 46, 0);
        night(6, 47, 6);
        night(6, 99, 6);
        night(0, 10, 0);
        night(1, 10, 1);
        night(1, 9, 1);
        night(2, 10, 1);
        night(5, 6, 5);
        night(4, 6, 4);
        night(1, 11, 0);
    }

    private static void dark(int beasts, int carry, int drink, int want) {
        SlowWells x = withKinds(6, "well 0 0;way 1;way 1;drink " + drink + " w=0;carry " + carry);
        x.caravan(beasts, 5, DARK);
        due("DARK with " + drink + " of " + carry + " drunk by " + beasts, x.would(0, STAND), want);
    }

    private static void darks() {
        says("Terms 1", "DARK: as NIGHT, but 0, if its WATER is less than half of what it carries.");
        dark(1, 10, 4, 6);
        dark(1, 10, 5, 6);
        dark(1, 10, 6, 0);
        dark(1, 10, 10, 0);
        dark(1, 10, 0, 6);
        dark(1, 9, 4, 6);
        dark(1, 9, 5, 0);
        dark(3, 9, 4, 6);
        dark(3, 9, 5, 0);
        dark(9, 10, 5, 6);
        dark(9, 10, 6, 0);
        dark(1, 1, 0, 6);
        dark(1, 1, 1, 0);
        dark(1, 0, 0, 6);
    }

    private static void told() {
        says("Terms 1", "TOLD: the number of its ROW for that WELL (0 .. 6; 0 beyond its end).");
        int[] numbers = {6, 0, 1, 5, 2};
        for (int n = 0; n <= 5; n++) {
            SlowWells x = withKinds(6, "carry 0" + times(5, ";well 9 0"));
            for (int i = 0; i < n; i++) {
                x.row(TOLD, numbers[i]);
            }
            x.caravan(1, 0, TOLD);
            for (int k = 0; k < 5; k++) {
                due("stand at " + k + " with " + n + " numbers", x.would(0, STAND + k), k < n ? numbers[k] : 0);
            }
        }
        SlowWells y = withKinds(6, "carry 0;well 9 0");
        y.row(TOLD, 1);
        y.row(TOLD, 6);
        y.row(TOLD, 6);
        y.caravan(1, 0, TOLD);
        due("more numbers than WELLS", y.would(0, OVER), 7);
    }

    /** BEST comes with nothing to an empty WELL that gives 1 an HOUR, and needs so much behind it. */
    private static void bestNeeds(int needs, int over, int stand) {
        SlowWells x = withKinds(0, "well " + needs + " 1;way 1;way " + needs + ";drink " + needs
            + " w=0;drink 1 w=1;carry " + needs);
        x.caravan(9, 0, RULE);
        x.caravan(1, 0, BEST);
        due("the first is LOST", x.goes(0), NOT);
        due("emptied", x.holds(0, 1), 0);
        due("OVER", x.would(1, OVER), over);
        due("STAND", x.would(1, STAND), stand);
        due("LOST", x.would(1, LOST), over == NOT ? 1 : NOT);
        due("goes", x.goes(1), over);
    }

    /** But one WELL gives, as much in so many HOURS as the last WAY needs, and it is emptied as BEST comes there. */
    private static void bestStandsAt(int well, int hours) {
        StringBuilder text = new StringBuilder("drink 9 w=" + well + ";drink " + hours + " w=5;carry 27");
        for (int k = 0; k < 5; k++) {
            text.append(k == well ? ";well 27 3" : ";well 0 0");
        }
        SlowWells x = withKinds(0, text.toString());
        x.caravan(9, 0, RULE);
        x.caravan(1, 0, BEST);
        x.goes(0);
        String of = " at WELL " + well + " for " + hours + " HOURS";
        boolean comes = hours <= 6 || well > 0;
        due("OVER, standing" + of, x.would(1, OVER), comes ? 18 + hours : NOT);
        for (int k = 0; k < 5 && comes; k++) {
            // what is more than 6 it stands at the WELL ahead of that
            int stand = k == well ? Math.min(6, hours) : k == well - 1 ? Math.max(0, hours - 6) : 0;
            due("stand at " + k + ", standing" + of, x.would(1, STAND + k), stand);
        }
        if (!comes) {
            due("it stands nowhere", x.would(1, STAND), 0);
        }
    }

    private static void bestAndStanding() {
        says("Terms 2", "of all rows of stands (0 .. 6 for each WELL) by which it comes OVER");
        // whoever is on a WAY in HOUR 3 is LOST; standing costs too
        for (int stand = 0; stand <= 3; stand++) {
            SlowWells x = withKinds(0, "well 0 0;well 0 0;way 1;way 1;way 2;drink 5 h=3;carry 4;stand " + stand);
            x.caravan(2, 0, BEST);
            due("OVER with stand " + stand, x.would(0, OVER), stand < 3 ? 6 : NOT);
            due("LOST with stand " + stand, x.would(0, LOST), stand < 3 ? NOT : 2);
            due("at WELL 1 with stand " + stand, x.would(0, STAND + 1), stand < 3 ? 2 : 0);
        }
        // WELL 0 makes good what standing there costs: 0 and 2, then 1 and 1, then none
        int[][] wants = {{5, 0, 2}, {5, 0, 2}, {5, 0, 2}, {5, 1, 1}, {5, 1, 1}, {NOT, 0, 0}};
        for (int stand = 0; stand <= 5; stand++) {
            SlowWells x = withKinds(0, "well 99 0;well 0 0;way 1;way 1;way 1;carry 4;stand " + stand
                + ";drink 5 w=2&h<4");
            x.caravan(1, 0, BEST);
            due("OVER with stand " + stand, x.would(0, OVER), wants[stand][0]);
            due("at WELL 0 with stand " + stand, x.would(0, STAND), wants[stand][1]);
            due("at WELL 1 with stand " + stand, x.would(0, STAND + 1), wants[stand][2]);
        }
        // WELL 0 is emptied in HOUR 8: BEST comes there with 6, stands till 8 and needs 8 then
        SlowWells y = withKinds(0, "well 9 3;way 1;way 1;drink 4 w=0;drink 8 w=1;stand 1;carry 10");
        y.caravan(9, 7, RULE);
        for (int start = 4; start >= 0; start--) {
            y.caravan(1, start, BEST);
        }
        y.goes(0);
        due("with 3 left: 0 and 9 in 3 HOURS", y.would(1, STAND), 3);
        due("OVER", y.would(1, OVER), 12);
        due("with 2 left it cannot stand 3", y.would(2, OVER), NOT);
        due("it stands nowhere", y.would(2, STAND), 0);
        due("with 0 left", y.would(4, STAND), 0);
        due("with 0 left", y.would(4, LOST), 1);
        due("not even till 8", y.would(5, STAND), NOT);
        due("not even till 8", y.would(5, LOST), 1);
    }

    private static void best() {
        says("Terms 2", "of all rows of stands (0 .. 6 for each WELL) by which it comes OVER, that with the earliest HOUR");
        bestNeeds(1, 3, 1);
        bestNeeds(5, 11, 5);
        bestNeeds(6, 13, 6);
        says("Terms 2", "none: it stands nowhere");
        bestNeeds(7, NOT, 0);
        bestNeeds(9, NOT, 0);
        SlowWells x = withKinds(6, "well 9 9;well 9 9;way 9;drink 9 h<24");
        x.caravan(1, 0, BEST);
        due("LOST on WAY 0", x.would(0, LOST), 0);
        due("not come to a WELL", x.would(0, STAND), NOT);
        SlowWells y = withKinds(6, "way 9");
        y.caravan(1, 0, BEST);
        due("no WELLS", y.would(0, OVER), 9);
        SlowWells z = withKinds(6, "way 9;drink 9 h<24");
        z.caravan(1, 0, BEST);
        due("no WELLS, LOST", z.would(0, LOST), 0);
        for (int needs = 0; needs <= 9; needs++) {
            for (int well = 0; well < 5; well++) {
                bestStandsAt(well, needs);
            }
        }
        // v has no say: it stands 6 with v 0, and 0 with v 6
        SlowWells v = withKinds(6, "well 9 0;way 1;way 1");
        v.caravan(1, 0, BEST);
        due("no need to stand", v.would(0, STAND), 0);
    }

    private static void bestOfSeveral() {
        says("Terms 2", "of several the first as a row");
        // whoever is on a WAY in HOUR 3 is LOST: 0 and 2, and 1 and 1 lead over in HOUR 6, 2 and 0 do not
        SlowWells x = withKinds(0, "well 0 0;well 0 0;way 1;way 1;way 2;drink 5 h=3;carry 4");
        x.caravan(1, 0, BEST);
        due("OVER", x.would(0, OVER), 6);
        due("at WELL 0", x.would(0, STAND), 0);
        due("at WELL 1", x.would(0, STAND + 1), 2);
        // in HOURS 1 and 4, too: it must stand in 1 at WELL 0 and in 3 at WELL 1
        SlowWells y = withKinds(0, "well 0 0;well 0 0;way 1;way 1;way 2;drink 5 h=1|h>2&h<5;carry 4");
        y.caravan(1, 0, BEST);
        due("OVER", y.would(0, OVER), 7);
        due("at WELL 0", y.would(0, STAND), 1);
        due("at WELL 1", y.would(0, STAND + 1), 2);
        // five WELLS, one HOUR to stand anywhere ahead of the last WAY: the last WELL's comes first as a row
        SlowWells z = withKinds(0, times(5, "well 0 0;") + times(6, "way 1;") + "drink 11 w=5&h=5");
        z.caravan(1, 0, BEST);
        due("OVER", z.would(0, OVER), 7);
        for (int k = 0; k < 5; k++) {
            due("at WELL " + k, z.would(0, STAND + k), k == 4 ? 1 : 0);
        }
    }

    private static void worth() {
        says("Terms 2", "WORTH of a CARAVAN: load for each BEAST, if it comes OVER.");
        SlowWells x = withBeasts("drink 9 b=5;load 99", 1, 9, 5);
        due("1", x.would(0, WORTH), 99);
        due("9", x.would(1, WORTH), 891);
        due("LOST", x.would(2, WORTH), 0);
        due("load 0", withBeasts("load 0", 9).would(0, WORTH), 0);
        due("load not told", withBeasts("way 1", 9).would(0, WORTH), 9);
    }

    private static boolean isWhat(int what) {
        return what >= 0 && what <= 2 || what >= 10 && what <= 14 || what >= 20 && what <= 24;
    }

    private static void would() {
        SlowWells x = new SlowWells();
        x.rule(RULE, 0);
        x.caravan(1, 0, 0);
        says("Promise 12", "NONE; STATE.");
        each("would(caravan, 0)", c -> x.would(c, 0), NONE, LOW, -1, 1, 5, HIGH);
        each("gone(caravan, 0)", c -> x.gone(c, 0), NONE, LOW, -1, 1, 5, HIGH);
        each("would(0, what)", what -> x.would(0, what), NONE, LOW, LOW + 8, HIGH, HIGH - 7);
        for (int what = -20; what <= 40; what++) {
            due("would(0, " + what + ")", x.would(0, what), isWhat(what) ? STATE : NONE);
            due("gone(0, " + what + ")", x.gone(0, what), isWhat(what) ? STATE : NONE);
        }
        says("Answers", "one of these that the WASTE has not: NONE, behind STATE");
        for (int wells = 0; wells <= 5; wells++) {
            SlowWells y = withBeasts("carry 1" + times(wells, ";well 7 8"), 1);
            for (int k = 0; k < 5; k++) {
                due("stand at " + k + " of " + wells, y.would(0, STAND + k), k < wells ? 0 : NONE);
                due("WATER at " + k + " of " + wells, y.would(0, WATER + k), k < wells ? 1 : NONE);
                due("stand at " + k + " of " + wells, y.gone(0, STAND + k), k < wells ? 0 : NONE);
                due("WATER at " + k + " of " + wells, y.gone(0, WATER + k), k < wells ? 1 : NONE);
            }
        }
        says("Promise 12", "1 the WAY on which it is LOST (standing at a WELL: the WAY behind that; -5: it is not)");
        for (int way = 0; way <= 5; way++) {
            SlowWells y = withBeasts("carry 0;drink 1 w=" + way + times(5, ";well 0 0"), 1);
            due("LOST on " + way, y.would(0, LOST), way);
            due("OVER", y.would(0, OVER), NOT);
            due("goes(0)", y.goes(0), NOT);
            for (int k = 0; k < 5; k++) {
                due("stand at " + k, y.would(0, STAND + k), k < way ? 0 : NOT);
                due("WATER at " + k, y.would(0, WATER + k), k < way ? 0 : NOT);
            }
        }
        says("Promise 12", "10 and k its stand at WELL k, 20 and k its WATER as it comes to WELL k (-5: it does not)");
        for (int well = 0; well < 5; well++) {
            SlowWells y = withKinds(0, "carry 0;stand 1" + times(5, ";well 0 0"));
            for (int k = 0; k < 5; k++) {
                y.row(TOLD, k < well ? 0 : 1);
            }
            y.caravan(1, 0, TOLD);
            due("LOST standing at " + well, y.would(0, LOST), well + 1);
            due("its stand there", y.would(0, STAND + well), 1);
            due("its WATER there", y.would(0, WATER + well), 0);
            for (int k = well + 1; k < 5; k++) {
                due("no stand at " + k, y.would(0, STAND + k), NOT);
                due("no WATER at " + k, y.would(0, WATER + k), NOT);
            }
        }
        due("it is not", withBeasts("way 1", 1).would(0, LOST), NOT);
    }

    private static void goes() {
        says("Promise 13", "the HOUR at which it comes OVER; -5: it is LOST. NONE; STATE.");
        SlowWells x = new SlowWells();
        each("goes(caravan)", x::goes, NONE, LOW, -1, 0, 5, HIGH);
        x.rule(RULE, 0);
        x.caravan(1, 0, 0);
        each("goes(caravan)", x::goes, NONE, LOW, -1, 1, 5, HIGH);
        due("goes(0)", x.goes(0), STATE);
        waste(x, "way 1;drink 9 h=0;carry 8");
        due("goes(0)", x.goes(0), NOT);
        waste(x, "way 1;drink 8 h=0;carry 8");
        due("goes(0)", x.goes(0), 1);
        says("Terms 3", "a CARAVAN GOES: it draws from them");
        SlowWells y = withBeasts("well 9 0;way 1;way 1;drink 2 w=0;carry 2", 1);
        for (int i = 1; i <= 6; i++) {
            due("goes(0)", y.goes(0), 2);
            due("left", y.holds(0, 1), Math.max(0, 9 - 2 * i));
        }
    }

    private static void hand() {
        says("Promise 14", "A number (0 .. 6) comes to the ROW told by hand: how many (-1: it is empty then, 0). BAD; FULL: 5.");
        SlowWells x = new SlowWells();
        each("hand(n)", x::hand, BAD, LOW, -2, 7, HIGH);
        due("hand(-1) of none", x.hand(-1), 0);
        says("Terms 2", "A ROW of stands told by hand, 5 at most");
        int[] numbers = {6, 0, 1, 5, 2};
        for (int i = 0; i < 5; i++) {
            due("hand(" + numbers[i] + ")", x.hand(numbers[i]), i + 1);
            due("count(4)", x.count(4), i + 1);
        }
        each("hand(n) of 5", x::hand, FULL, 0, 6);
        each("hand(n), BAD ahead of FULL", x::hand, BAD, LOW, -2, 7, HIGH);
        due("count(4)", x.count(4), 5);
        x.rule(RULE, 0);
        x.caravan(1, 0, 0);
        waste(x, "carry 0" + times(5, ";well 9 0"));
        for (int k = 0; k < 5; k++) {
            due("stand at " + k, x.gone(0, STAND + k), numbers[k]);
        }
        due("hand(-1) of 5", x.hand(-1), 0);
        due("count(4)", x.count(4), 0);
        for (int k = 0; k < 5; k++) {
            due("stand at " + k, x.gone(0, STAND + k), 0);
        }
        due("the first again", x.hand(4), 1);
        due("stand at 0", x.gone(0, STAND), 4);
        due("stand at 1", x.gone(0, STAND + 1), 0);
    }

    private static void gone() {
        says("Promise 15", "GONE by a CARAVAN with the ROW told by hand (0 beyond its end): as would(). NONE; STATE.");
        SlowWells x = withKinds(6, "well 9 0;well 9 0;way 1;way 1;way 1;drink 1 h<24;stand 2;carry 9;load 4");
        x.caravan(2, 0, TOLD);
        x.row(TOLD, 6);
        due("none told: OVER", x.gone(0, OVER), 3);
        due("WORTH", x.gone(0, WORTH), 8);
        due("LOST", x.gone(0, LOST), NOT);
        x.hand(2);
        due("stands 2 at WELL 0", x.gone(0, OVER), 5);
        // 18, 16, 8 behind standing, 17 (all 9), 15 at WELL 1
        due("WATER at WELL 0", x.gone(0, WATER), 16);
        due("WATER at WELL 1", x.gone(0, WATER + 1), 15);
        due("0 beyond its end", x.gone(0, STAND + 1), 0);
        x.hand(3);
        due("just enough to stand 3 with 15", x.gone(0, OVER), 8);
        x.hand(-1);
        x.hand(2);
        x.hand(4);
        due("not enough to stand 4", x.gone(0, OVER), NOT);
        due("LOST", x.gone(0, LOST), 2);
        due("WORTH", x.gone(0, WORTH), 0);
        due("STAND", x.gone(0, STAND + 1), 4);
        x.hand(6);
        x.hand(6);
        x.hand(6);
        due("numbers beyond the WELLS", x.gone(0, LOST), 2);
        due("its own RULE stays", x.would(0, STAND), 6);
        due("nothing was drawn", x.holds(0, 1), 9);
    }
}
