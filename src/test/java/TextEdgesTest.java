/** Boundary cases of THE TEXT, of what it tells and of its FAULT: "Terms" 1, promises 1 to 8. */
public final class TextEdgesTest extends Sentences {
    private static final String FIVE = "well 1 2;well 3 4;well 5 6;well 7 8;well 9 10";

    public static void main(String[] args) {
        aNewObject();
        feeding();
        theText();
        clauses();
        numbers();
        signs();
        within();
        tests();
        faults();
        wastes();
        wellsAndWays();
        lastOnes();
        of();
        holds();
        drinks();
        odds();
        ever();
        end();
    }

    private static void aNewObject() {
        SlowWells x = new SlowWells();
        says("Promise 1", "No WASTE, no RULES.");
        each("count", x::count, 0, 0, 1, 2, 3, 4, 5, 6);
        due("of(0)", x.of(0), STATE);
        due("taken(0, 0)", x.taken(0, 0), NOTHING);
        due("caravan(1, 0, 0)", x.caravan(1, 0, 0), NONE);
        says("Promise 19", "NO: caravan, part, no WASTE.");
        due("likely(0, 0)", x.likely(0, 0), NO);
        says("Terms 4", "TAPES 0 .. 5 hold nothing (at first)");
        each("item", tape -> x.item(tape, 0, 0), NOTHING, 0, 1, 2, 3, 4, 5);
        says("Promise 23", "STATE: there is none.");
        due("undo()", x.undo(), STATE);
        says("Terms 2", "0 at first");
        each("odds", well -> x.odds(well, 0), 0, 0, 1, 2, 3, 4);
        says("The constants", "`NO = Long.MIN_VALUE`: There is no such number.");
        due("NO", SlowWells.NO, Long.MIN_VALUE);
        says("The public face", "NONE = -1, BAD = -2, STATE = -3, FULL = -4");
        due("NONE", SlowWells.NONE, -1);
        due("BAD", SlowWells.BAD, -2);
        due("STATE", SlowWells.STATE, -3);
        due("FULL", SlowWells.FULL, -4);
        says("Promise 1", "A new object");
        SlowWells y = new SlowWells();
        due("another's waste", waste(y, "way 1"), 0);
        y.rule(0, 0);
        y.hand(1);
        y.tape(0, 0, 1);
        y.odds(0, 1);
        due("of(0)", x.of(0), STATE);
        due("count(1)", x.count(1), 0);
        due("count(4)", x.count(4), 0);
        due("item", x.item(0, 0, 0), NOTHING);
        due("odds", x.odds(0, 0), 0);
    }

    private static void feeding() {
        says("Promise 2", "n 0 .. 4");
        SlowWells x = new SlowWells();
        each("feed(65, n)", n -> x.feed(65, n), BAD, outside(0, 4));
        due("count(5)", x.count(5), 0);
        for (int n = 0; n <= 4; n++) {
            due("feed(65, " + n + ")", new SlowWells().feed(65, n), n);
        }
        says("Promise 2", "The n lowest bytes of a number, the highest first");
        SlowWells y = new SlowWells();
        y.feed(0x77617920, 4);
        y.feed(0x31323335, 1);
        due("one of four", y.waste(), 0);
        due("of(30)", y.of(30), 5);
        y.feed(0x31776179, 3);
        y.feed(0x31322036, 2);
        due("three and two of four", y.waste(), 1);
        due("of(30)", y.of(30), 6);
        y.feed(0x77617920, 0);
        due("none of four", y.waste(), -10);
        y.feed(0x80776179, 3);
        y.feed(0xffff2037, 2);
        due("of numbers below 0", y.waste(), 2);
        due("of(30)", y.of(30), 7);
        says("Promise 2", "how many it has");
        for (int i = 1; i <= 25; i++) {
            due("feed(0, 4)", x.feed(0, 4), 4 * i);
        }
        says("Promise 2", "BAD; FULL.");
        each("feed(0, n) to 100 bytes", n -> x.feed(0, n), FULL, 1, 2, 3, 4);
        each("feed(0, n) to 100 bytes", n -> x.feed(0, n), BAD, outside(0, 4));
        due("feed(0, 0) to 100 bytes", x.feed(0, 0), 100);
        due("count(5)", x.count(5), 100);
    }

    private static void theText() {
        says("Terms 1", "THE TEXT (bytes, 100 at most)");
        for (int n = 1; n <= 4; n++) {
            for (int room = 0; room <= 4; room++) {
                SlowWells x = new SlowWells();
                feed(x, times(100 - room, "x"));
                due(n + " bytes where there is room for " + room, x.feed(0, n), n <= room ? 100 - room + n : FULL);
                due("count(5)", x.count(5), n <= room ? 100 - room + n : 100 - room);
            }
        }
        String most = "drink 1 h=0" + times(20, "|h=1") + ";carry 12";
        SlowWells y = with(most);
        due("how long that was", most.length(), 100);
        due("the 100th byte's", y.of(1), 12);
        due("of the 100 bytes", y.drinks(0, 1, 1), 1);
        feed(y, times(100, "x"));
        due("the next 100", y.count(5), 100);
        says("Promise 3", "THE TEXT, which is empty then");
        due("a fault", y.waste(), -10);
        due("count(5)", y.count(5), 0);
        due("waste()", waste(y, "way 7"), 1);
        due("count(5)", y.count(5), 0);
        due("empty", y.waste(), -10);
    }

    private static void clauses() {
        says("Terms 1", "CLAUSES, 1 to 12");
        fault("", 0);
        noFault("way 1");
        noFault("way 1" + times(10, ";way 1"));
        noFault("way 1" + times(11, ";way 1"));
        fault("way 1" + times(12, ";way 1"), 71);
        fault("way 1" + times(11, ";way 1") + ";", 71);
        fault("way 1" + times(10, ";way 1") + ";drink 1 h<1;", 77);
        says("Terms 1", "with ; between");
        fault(";", 0);
        fault(";way 1", 0);
        fault("way 1;", 6);
        fault("way 1;;way 1", 6);
        fault("way 1 way 1", 5);
        fault("way 1,way 1", 5);
        fault("way 1; way 1", 6);
        noFault("way 1;way 1");
        says("Terms 1", "well f g; way h; drink n E; carry n; load n; stand n");
        String[] each = {"well 1 1", "way 1", "drink 1 h<1", "carry 1", "load 1", "stand 1"};
        for (String clause : each) {
            noFault(clause);
            for (int i = 0; i < clause.length(); i++) {
                fault(clause.substring(0, i), i);
                fault(clause.substring(0, i) + "x" + clause.substring(i + 1), i);
                fault(clause.substring(0, i) + (char) (clause.charAt(i) ^ 0x80), i);
            }
            fault(clause.substring(0, 1).toUpperCase() + clause.substring(1), 0);
            for (String next : each) {
                noFault(clause + ";" + next);
            }
        }
        fault("well 1", 6);
        fault("well 1;", 6);
        fault("well 1 1 1", 8);
        fault("way 1 1", 5);
        fault("drink 1", 7);
        fault("drink h<1", 6);
        fault("drink 1 1", 8);
        fault("carry 1 1", 7);
        fault("load 1 h<1", 6);
        fault("stand 1 1", 7);
        says("Terms 1", "one blank ahead of each part behind the word");
        fault(" way 1", 0);
        fault("way1", 3);
        fault("way  1", 4);
        fault("way 1 ", 5);
        fault("way\t1", 3);
        fault("well1 1", 4);
        fault("well  1 1", 5);
        fault("well 1  1", 7);
        fault("well 1 1 ", 8);
        fault("drink1 h<1", 5);
        fault("drink  1 h<1", 6);
        fault("drink 1h<1", 7);
        fault("drink 1  h<1", 8);
        fault("drink 11h<1", 8);
        fault("drink 1 h<1 ", 11);
        fault("drink 1 h <1", 9);
        fault("drink 1 h< 1", 10);
        fault("drink 1 h<1 &h<1", 11);
        fault("drink 1 h<1& h<1", 12);
        fault("drink 1 ! h<1", 9);
        fault("drink 1 ( h<1)", 9);
        fault("carry1", 5);
        fault("load  1", 5);
        fault("stand 1 ;way 1", 7);
    }

    private static void numbers() {
        says("Terms 1", "f, g, n 1 or 2 digits");
        String[] parts = {"well # 1", "well 1 #", "drink # h<1", "carry #", "load #", "stand #"};
        for (String part : parts) {
            numberAt(part, part.indexOf('#'));
        }
        SlowWells x = with("well 99 0;well 0 99;well 9 10;well 00 09;carry 99;load 00;stand 09");
        int[] wants = {99, 0, 9, 0, 0, 99, 10, 9};
        for (int k = 0; k < 4; k++) {
            due("FULL " + k, x.of(10 + k), wants[k]);
            due("GIVES " + k, x.of(20 + k), wants[4 + k]);
        }
        due("carry", x.of(1), 99);
        due("load", x.of(2), 0);
        due("stand", x.of(3), 9);
        SlowWells y = with("drink 99 h=1;drink 0 h=1;drink 10 h=2;drink 09 h=3;drink 9 h=4");
        int[] drunk = {0, 99, 10, 9, 9};
        for (int hour = 0; hour < 5; hour++) {
            due("drinks in HOUR " + hour, y.drinks(0, hour, 1), drunk[hour]);
        }
        says("Terms 1", "h one figure");
        fault("way ", 4);
        for (int h = 0; h <= 9; h++) {
            noFault("way " + h);
            fault("way 1" + h, 5);
        }
        fault("way -1", 4);
        fault("way /", 4);
        fault("way :", 4);
        fault("way 01", 5);
        says("Terms 1", "a number (1 or 2 digits)");
        numberAt("drink 1 h<#", 10);
        numberAt("drink 1 b=#", 10);
        numberAt("drink 1 (w>#)", 11);
        numberAt("drink 1 h<#&h<1", 10);
        numberAt("drink 1 h<#|h<1", 10);
    }

    private static void numberAt(String part, int place) {
        String ahead = part.substring(0, place), behind = part.substring(place + 1);
        for (String good : new String[] {"0", "9", "00", "09", "10", "99"}) {
            noFault(ahead + good + behind);
        }
        fault(ahead + behind, place);
        fault(ahead + "100" + behind, place + 2);
        fault(ahead + "001" + behind, place + 2);
        fault(ahead + "-1" + behind, place);
        fault(ahead + "+1" + behind, place);
        fault(ahead + "/" + behind, place);
        fault(ahead + ":" + behind, place);
        fault(ahead + "1/" + behind, place + 1);
        fault(ahead + "1:" + behind, place + 1);
    }

    /** In which of the hours 0 .. 7 an E holds, the first as the lowest bit. */
    private static int hours(String e) {
        SlowWells x = with("drink 1 " + e);
        int bits = 0;
        for (int hour = 0; hour < 8; hour++) {
            bits |= x.drinks(0, hour, 1) << hour;
        }
        return bits;
    }

    private static void signs() {
        says("Terms 1", "E: T or T|E. T: F or F&T. F: !F, (E), or a TEST");
        due("a TEST", hours("h<4"), 0x0f);
        due("T|E", hours("h<1|h=2"), 0x05);
        due("T|T|E", hours("h<1|h=2|h=7"), 0x85);
        due("F&T", hours("h>2&h<5"), 0x18);
        due("F&F&T", hours("h>2&h<6&!h=4"), 0x28);
        due("& ahead of | behind it", hours("h=1|h<4&h>2"), 0x0a);
        due("& ahead of | before it", hours("h<4&h>2|h=1"), 0x0a);
        due("| in ()", hours("(h=1|h<4)&h>2"), 0x08);
        due("| in () behind &", hours("h>2&(h=1|h<4)"), 0x08);
        due("! ahead of &", hours("!h=1&h<3"), 0x05);
        due("! ahead of |", hours("!h>2|h=7"), 0x87);
        due("! of ()", hours("!(h<2|h=5)"), 0xdc);
        due("!!", hours("!!h=3"), 0x08);
        due("()", hours("(h=3)"), 0x08);
        fault("drink 1 ()", 9);
        fault("drink 1 !", 9);
        fault("drink 1 |h<1", 8);
        fault("drink 1 &h<1", 8);
        fault("drink 1 h<1|", 12);
        fault("drink 1 h<1&", 12);
        fault("drink 1 h<1||h<1", 12);
        fault("drink 1 h<1&&h<1", 12);
        fault("drink 1 h<1!", 11);
        fault("drink 1 h<1(", 11);
        fault("drink 1 h<1)", 11);
        fault("drink 1 (h<1", 12);
        fault("drink 1 (h<1;way 1", 12);
        fault("drink 1 (h<1))", 13);
        fault("drink 1 (h<1)h<1", 13);
        fault("drink 1 ;", 8);
    }

    private static void within() {
        says("Terms 1", "A ( or ! within 4 others is none.");
        for (int which = 0; which < 32; which++) {
            StringBuilder four = new StringBuilder(), ends = new StringBuilder();
            for (int i = 0; i < 4; i++) {
                four.append((which >> i & 1) == 1 ? '(' : '!');
                ends.append((which >> i & 1) == 1 ? ")" : "");
            }
            noFault("drink 1 " + four + "h<1" + ends);
            boolean isBracket = (which >> 4 & 1) == 1;
            fault("drink 1 " + four + (isBracket ? "(h<1)" : "!h<1") + ends, 12);
        }
        int inFour = 8 + 4 + 4;
        fault("drink 1 ((((h<1&!h<1))))", inFour);
        fault("drink 1 ((((h<1|(h<1)))))", inFour);
        fault("drink 1 (!(h<1&(h<1|!h<1)))", 8 + 3 + 4 + 1 + 4);
        due("side by side", hours("!!!!h=1&((((h<3))))&!(!(h=1))|((!!h=7))"), 0x82);
        due("one ended, another begun", hours("(((h=1)|((h=2))))"), 0x06);
        due("three, and a test", hours("(!(h=1)&h<3)"), 0x05);
    }

    private static void tests() {
        says("Terms 1", "h (the HOUR modulo 24)");
        SlowWells x = with("drink 1 h=0;drink 2 h=23;drink 4 h<24;drink 8 h=24;drink 16 h>23;drink 32 h<0");
        int[][] wants = {{0, 5}, {1, 4}, {22, 4}, {23, 6}, {24, 5}, {47, 6}, {48, 5}, {983, 6}, {984, 5}, {999, 4}};
        for (int[] w : wants) {
            due("drinks in HOUR " + w[0], x.drinks(0, w[0], 1), w[1]);
        }
        due("99 is none of the HOURS", hours("h=99|h>99"), 0);
        due("all are below 99", hours("h<99"), 0xff);
        says("Terms 1", "b (how many BEASTS there are)");
        SlowWells y = with("drink 1 b=1;drink 2 b=9;drink 4 b<2;drink 8 b>8;drink 16 b<1;drink 32 b>9");
        due("1", y.drinks(0, 0, 1), 5);
        due("2", y.drinks(0, 0, 2), 0);
        due("8", y.drinks(0, 0, 8), 0);
        due("9", y.drinks(0, 0, 9), 10);
        says("Terms 1", "w (the WELL from which the WAY goes; 0 before the first, i + 1 behind WELL i)");
        SlowWells z = with(FIVE + ";drink 1 w=0;drink 2 w=5;drink 4 w>4;drink 8 w<1");
        int[] byWay = {9, 0, 0, 0, 0, 6};
        for (int way = 0; way <= 5; way++) {
            due("drinks on WAY " + way, z.drinks(way, 0, 1), byWay[way]);
        }
        says("Terms 1", "< or = or >");
        due("below", hours("h<4"), 0x0f);
        due("is", hours("h=4"), 0x10);
        due("above", hours("h>4"), 0xe0);
        due("below 1", hours("h<1"), 0x01);
        due("above 0", hours("h>0"), 0xfe);
        due("none below 0", hours("h<0"), 0);
        fault("drink 1 h>=1", 10);
        fault("drink 1 h==1", 10);
        fault("drink 1 h?1", 9);
        fault("drink 1 h;1", 9);
        fault("drink 1 a=1", 8);
        fault("drink 1 c=1", 8);
        fault("drink 1 g=1", 8);
        fault("drink 1 1=h", 8);
    }

    private static void faults() {
        says("Terms 1", "the place of the first byte with which none begins so");
        fault("x", 0);
        fault("\u0000", 0);
        fault("\u00ff", 0);
        fault("w\u00ff", 1);
        fault("way 1\u0000", 5);
        fault("way 1\u00ff", 5);
        fault("way 1;w\u00ff", 7);
        fault("drink 1 h<1\u00ff", 11);
        fault("wx", 1);
        fault("wex", 2);
        fault("welx", 3);
        fault("wax", 2);
        fault("wall 1 1", 2);
        fault("way 1;x;y", 6);
        fault("x" + times(99, "y"), 0);
        fault(times(16, "way 1;") + "x", 71);
        fault("way 1;" + times(10, "way 2;") + "way 3x", 71);
        says("Terms 1", "the end of THE TEXT, if it ends too early");
        fault("", 0);
        fault("w", 1);
        fault("wa", 2);
        fault("we", 2);
        fault("way 1;w", 7);
        String long99 = "drink 1 h=0" + times(20, "|h=1") + ";carry 1";
        due("how long that is", long99.length(), 99);
        noFault(long99);
        fault(long99 + ";", 100);
        fault(long99 + "x", 99);
        fault(times(11, "way 1;") + "drink 1 ((((h=10|h=11|h=12|h=13)))", 100);
        says("Promise 3", "-10 less the FAULT (the one that held holds)");
        SlowWells x = with("well 5 1;way 9");
        due("a fault at the end of a whole waste", waste(x, "well 9 9;well 9 9;carry 7;way 1;"), -42);
        due("of(0)", x.of(0), 1);
        due("of(1)", x.of(1), 10);
        due("of(10)", x.of(10), 5);
        due("of(30)", x.of(30), 9);
        due("count(0)", x.count(0), 1);
        due("the next one's number", waste(x, "way 1"), 1);
        SlowWells y = new SlowWells();
        due("a fault", waste(y, "way"), -13);
        due("none held", y.of(0), STATE);
        due("count(0)", y.count(0), 0);
    }

    private static void wastes() {
        says("Terms 1", "WASTES are numbered 0 .. 4, as they come");
        SlowWells x = new SlowWells();
        for (int i = 0; i < 5; i++) {
            due("waste()", waste(x, "carry " + i), i);
            due("count(0)", x.count(0), i + 1);
            due("the newest one's carry", x.of(1), i);
        }
        says("Promise 3", "FULL: there are 5 (THE TEXT stays)");
        feed(x, "carry 5");
        due("waste()", x.waste(), FULL);
        due("count(5)", x.count(5), 7);
        due("of(1)", x.of(1), 4);
        due("feed", x.feed('0', 1), 8);
        due("waste()", x.waste(), FULL);
        feed(x, "x");
        due("FULL ahead of a FAULT", x.waste(), FULL);
        due("count(5)", x.count(5), 9);
        due("count(0)", x.count(0), 5);
        SlowWells e = new SlowWells();
        for (int i = 0; i < 5; i++) {
            waste(e, "carry " + i);
        }
        due("FULL ahead of the FAULT of an empty text", e.waste(), FULL);
        says("Terms 1", "the newest one holds, all WELLS being full then as from HOUR 0 on");
        String text = "well 20 2;well 9 1;way 2;way 1;way 1;drink 2 h<24";
        SlowWells y = withKinds(0, text);
        y.caravan(5, 50, RULE);
        y.caravan(1, 0, RULE);
        due("one goes", y.goes(0), 54);
        due("drawn from WELL 0", y.holds(0, 52), 0);
        due("drawn from WELL 1", y.holds(1, 53), 0);
        due("another waits", y.would(1, OVER), 54);
        due("the same again", waste(y, text), 1);
        due("full", y.holds(0, 0), 20);
        due("full", y.holds(1, 0), 9);
        due("nobody drew there", y.would(1, OVER), 4);
        says("Promise 3", "SEVERAL and so on stay");
        y.several(0);
        y.hand(3);
        y.odds(4, 9);
        y.tape(2, 2, 1);
        y.image();
        due("another", waste(y, "way 1"), 2);
        due("count(3)", y.count(3), 1);
        due("count(4)", y.count(4), 1);
        due("odds(4, 0)", y.odds(4, 0), 9);
        due("read(2, 0)", y.read(2, 0), 0);
        due("count(1)", y.count(1), 7);
        due("count(2)", y.count(2), 2);
        due("undo()", y.undo(), 1);
        due("of(0)", y.of(0), 2);
    }

    private static void wellsAndWays() {
        says("Terms 1", "WELLS 0 .. 4 are the well clauses as they come (more do not count)");
        String text = "way 1";
        for (int n = 0; n <= 6; n++) {
            due(n + " well clauses", with(text).of(0), Math.min(n, 5));
            text += ";well " + n + " " + (n + 1);
        }
        SlowWells x = with(FIVE + ";well 11 12;well 13 14");
        for (int k = 0; k < 5; k++) {
            due("FULL " + k, x.of(10 + k), 2 * k + 1);
            due("GIVES " + k, x.of(20 + k), 2 * k + 2);
        }
        due("WAY 5", x.of(35), 3);
        due("eleven", with("well 1 1" + times(10, ";well 1 1")).of(0), 5);
        SlowWells m = with("way 7;well 1 2;carry 9;drink 1 h<1;well 3 4;way 8");
        due("FULL 1, others between", m.of(11), 3);
        due("WAY 1, others between", m.of(31), 8);
        says("Terms 1", "the k-th way is that to WELL k, the last one (as many as there are WELLS, and 1) to the end");
        SlowWells y = with("way 4;way 5;way 6;way 7;well 9 0;well 9 0");
        due("WAY 0", y.of(30), 4);
        due("WAY 1", y.of(31), 5);
        due("WAY 2", y.of(32), 6);
        due("one more does not count", y.of(33), NONE);
        y.rule(RULE, 0);
        y.caravan(1, 0, 0);
        due("OVER", y.would(0, OVER), 15);
        SlowWells z = with("way 1;way 2;way 3;way 4;way 5;way 6;way 7;way 8;well 1 1");
        due("eight, of which two count", z.of(30) * 10 + z.of(31), 12);
        SlowWells s = with(FIVE + ";way 1;way 2;way 3;way 4;way 5;way 6;way 7");
        for (int k = 0; k <= 5; k++) {
            due("WAY " + k + " of 6", s.of(30 + k), k + 1);
        }
        says("Terms 1", "those not told last 3 HOURS");
        SlowWells a = with(FIVE);
        each("way not told", k -> a.of(30 + k), 3, 0, 1, 2, 3, 4, 5);
        SlowWells b = with("well 1 1;way 9");
        due("WAY 0", b.of(30), 9);
        due("WAY 1", b.of(31), 3);
        due("no WELLS", with("carry 1").of(30), 3);
        says("Terms 1", "0 counts as 1");
        SlowWells c = with("well 1 1;well 1 1;way 0;way 1;way 0");
        each("way", k -> c.of(30 + k), 1, 0, 1, 2);
        c.rule(RULE, 0);
        c.caravan(1, 0, 0);
        due("OVER", c.would(0, OVER), 3);
    }

    private static void lastOnes() {
        says("Terms 1", "carry (10 without), load (1), stand (0): the last one's n");
        SlowWells x = with("way 1");
        due("carry", x.of(1), 10);
        due("load", x.of(2), 1);
        due("stand", x.of(3), 0);
        due("two of each", waste(x, "carry 1;load 2;stand 3;carry 4;load 5;stand 6"), 1);
        due("carry", x.of(1), 4);
        due("load", x.of(2), 5);
        due("stand", x.of(3), 6);
        due("0 behind another", waste(x, "carry 1;load 2;stand 3;carry 0;load 0;stand 0"), 2);
        due("carry", x.of(1), 0);
        due("load", x.of(2), 0);
        due("stand", x.of(3), 0);
        due("none again", waste(x, "way 1"), 3);
        due("carry", x.of(1), 10);
        due("load", x.of(2), 1);
        due("stand", x.of(3), 0);
    }

    private static boolean isWhat(int what) {
        return what >= 0 && what <= 3 || what >= 10 && what <= 14 || what >= 20 && what <= 24
            || what >= 30 && what <= 35;
    }

    private static void of() {
        says("Promise 4", "NONE; STATE.");
        SlowWells x = new SlowWells();
        SlowWells y = with(FIVE + ";way 1;way 2;way 3;way 4;way 5;way 6;stand 7");
        for (int what = -40; what <= 50; what++) {
            due("of(" + what + ") without a WASTE", x.of(what), isWhat(what) ? STATE : NONE);
            due("of(" + what + ") is told", y.of(what) == NONE ? 0 : 1, isWhat(what) ? 1 : 0);
        }
        each("of", x::of, NONE, LOW, LOW + 10, HIGH, HIGH - 7);
        each("of", y::of, NONE, LOW, LOW + 10, HIGH, HIGH - 7);
        says("Promise 4", "10 and k FULL of WELL k, 20 and k what it GIVES, 30 and k the HOURS of the k-th WAY");
        for (int k = 0; k < 5; k++) {
            due("FULL " + k, y.of(10 + k), 2 * k + 1);
            due("GIVES " + k, y.of(20 + k), 2 * k + 2);
        }
        for (int k = 0; k < 6; k++) {
            due("WAY " + k, y.of(30 + k), k + 1);
        }
        says("Promise 4", "0 how many WELLS, 1 carry, 2 load, 3 stand");
        due("of(0)", y.of(0), 5);
        due("of(1)", y.of(1), 10);
        due("of(2)", y.of(2), 1);
        due("of(3)", y.of(3), 7);
        says("Answers", "one of these that the WASTE has not: NONE, behind STATE");
        for (int wells = 0; wells <= 5; wells++) {
            SlowWells z = with("carry 1" + times(wells, ";well 7 8"));
            for (int k = 0; k <= 5; k++) {
                due("FULL " + k + " of " + wells, z.of(10 + k), k < wells ? 7 : NONE);
                due("GIVES " + k + " of " + wells, z.of(20 + k), k < wells ? 8 : NONE);
                due("WAY " + k + " with " + wells, z.of(30 + k), k <= wells ? 3 : NONE);
                due("holds " + k + " of " + wells, z.holds(k, 0), k < wells ? 7 : NONE);
                due("drinks on " + k + " with " + wells, z.drinks(k, 0, 1), k <= wells ? 0 : NONE);
            }
        }
        each("of, no WASTE", x::of, STATE, 14, 24, 35);
        due("holds(4, 0), no WASTE", x.holds(4, 0), STATE);
        due("drinks(5, 0, 1), no WASTE", x.drinks(5, 0, 1), STATE);
    }

    private static void holds() {
        says("Promise 5", "NONE; BAD; STATE.");
        SlowWells x = new SlowWells();
        each("holds(well, 0)", well -> x.holds(well, 0), NONE, outside(0, 4));
        each("holds(well, 1000)", well -> x.holds(well, 1000), NONE, outside(0, 4));
        each("holds(4, hour)", hour -> x.holds(4, hour), BAD, outside(0, 999));
        each("holds(4, hour)", hour -> x.holds(4, hour), STATE, 0, 999);
        due("holds(0, 0)", x.holds(0, 0), STATE);
        waste(x, "well 20 2;way 2;way 1;drink 1 h<24;carry 5");
        each("holds(well, 0)", well -> x.holds(well, 0), NONE, outside(0, 4));
        each("holds(well, -1)", well -> x.holds(well, -1), NONE, outside(0, 4));
        each("holds(0, hour)", hour -> x.holds(0, hour), BAD, outside(0, 999));
        each("holds(1, hour)", hour -> x.holds(1, hour), BAD, outside(0, 999));
        each("holds(1, hour)", hour -> x.holds(1, hour), NONE, 0, 999);
        says("Promise 5", "at an HOUR (0 .. 999; ahead of the last drawing: as behind that)");
        each("full at HOUR", hour -> x.holds(0, hour), 20, 0, 1, 2, 999);
        x.rule(RULE, 0);
        x.caravan(4, 0, 0);
        due("goes(0)", x.goes(0), 3);
        // 20 carried, 8 drunk and 8 drawn in HOUR 2
        each("holds(0, hour)", hour -> x.holds(0, hour), 12, 0, 1, 2);
        due("holds(0, 3)", x.holds(0, 3), 14);
    }

    private static void drinks() {
        says("Promise 6", "NONE: way; BAD; STATE.");
        SlowWells x = new SlowWells();
        each("drinks(way, 0, 1)", way -> x.drinks(way, 0, 1), NONE, outside(0, 5));
        each("drinks(way, -1, 0)", way -> x.drinks(way, -1, 0), NONE, outside(0, 5));
        each("drinks(5, hour, 1)", hour -> x.drinks(5, hour, 1), BAD, outside(0, 999));
        each("drinks(5, 0, beasts)", beasts -> x.drinks(5, 0, beasts), BAD, outside(1, 9));
        each("drinks(5, hour, 1)", hour -> x.drinks(5, hour, 1), STATE, 0, 999);
        each("drinks(5, 0, beasts)", beasts -> x.drinks(5, 0, beasts), STATE, 1, 9);
        due("drinks(0, 0, 1)", x.drinks(0, 0, 1), STATE);
        waste(x, "well 20 2;drink 7 h<24");
        each("drinks(way, 0, 0)", way -> x.drinks(way, 0, 0), NONE, outside(0, 5));
        each("drinks(2, hour, 1)", hour -> x.drinks(2, hour, 1), BAD, outside(0, 999));
        each("drinks(2, 0, beasts)", beasts -> x.drinks(2, 0, beasts), BAD, outside(1, 9));
        each("drinks(2, hour, 1)", hour -> x.drinks(2, hour, 1), NONE, 0, 999);
        each("drinks(1, hour, 1)", hour -> x.drinks(1, hour, 1), 7, 0, 999);
        each("drinks(1, 0, beasts)", beasts -> x.drinks(1, 0, beasts), 7, 1, 9);
        says("Promise 6", "What a BEAST drinks in an HOUR");
        due("nothing told", with("way 1").drinks(0, 0, 9), 0);
        due("the most there is", with("drink 99 h<1" + times(5, ";drink 99 h<1")).drinks(0, 0, 9), 594);
    }

    private static void odds() {
        says("Promise 7", "ODDS of a WELL (0 .. 4) become n: what they were. NONE; BAD.");
        SlowWells x = new SlowWells();
        each("odds(well, 1)", well -> x.odds(well, 1), NONE, outside(0, 4));
        each("odds(well, 11)", well -> x.odds(well, 11), NONE, outside(0, 4));
        for (int well = 0; well <= 4; well++) {
            int its = well;
            each("odds(" + well + ", n)", n -> x.odds(its, n), BAD, outside(0, 10));
            due("odds, as they were", x.odds(well, well + 1), 0);
        }
        for (int well = 0; well <= 4; well++) {
            due("odds, each its own", x.odds(well, 10), well + 1);
            due("odds, 10", x.odds(well, 0), 10);
            due("odds, 0", x.odds(well, 0), 0);
        }
        says("Terms 2", "each WELL may be DRY by its ODDS (0 .. 10 of ten; 0 at first)");
        waste(x, "well 1 1;carry 0");
        due("odds of a WELL that the WASTE has not", x.odds(4, 3), 0);
        due("then", x.odds(4, 3), 3);
    }

    private static void ever() {
        says("Promise 8", "EVER till an HOUR (0 .. 999). BAD; STATE.");
        SlowWells x = new SlowWells();
        each("ever(hour)", x::ever, BAD, outside(0, 999));
        each("ever(hour)", x::ever, STATE, 0, 999);
        waste(x, "carry 1");
        each("ever(hour)", x::ever, BAD, outside(0, 999));
        each("ever(hour), no WELLS", x::ever, 0, 0, 999);
        says("Terms 2", "EVER: the most that can be drawn from all WELLS till an HOUR, from HOUR 0 on (in each HOUR once from each).");
        waste(x, "well 20 3");
        due("ever(0)", x.ever(0), 20);
        due("ever(1)", x.ever(1), 23);
        due("ever(999)", x.ever(999), 20 + 999 * 3);
        waste(x, "well 5 9;well 7 0;well 0 8;well 6 6");
        // no more than FULL comes in an HOUR
        due("ever(0)", x.ever(0), 18);
        due("ever(1)", x.ever(1), 18 + 5 + 6);
        due("ever(999)", x.ever(999), 18 + 999 * 11);
        waste(x, "well 99 99" + times(4, ";well 99 99"));
        due("the most there is", x.ever(999), 5 * 99 * 1000);
        x.rule(RULE, 0);
        x.caravan(9, 0, 0);
        x.odds(0, 10);
        x.goes(0);
        due("what was drawn and what is DRY has no say", x.ever(0), 495);
    }
}
