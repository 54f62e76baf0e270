/** For each promise of the document: ordinary calls, its edges, and wrong arguments, worked out by hand. */
public final class PromisesTest {
    private static final int NONE = -1, BAD = -2, STATE = -3, FULL = -4, NOT = -5;
    private static final int NOTHING = -11, CAST = -12, PLACE = -13, SIZE = -14;
    private static final long NO = Long.MIN_VALUE;
    /** A beast drinks 1 an hour everywhere, and standing too. */
    private static final String PLAIN = "well 20 2;well 9 3;way 2;way 3;way 1;drink 1 h<99;stand 1;carry 5;load 4";

    private static int wrong = 0;
    private static String promise = "";

    private static void due(String what, long got, long want) {
        if (got != want) {
            wrong++;
            System.out.println(promise + ": " + what + " answered " + got + ", due is " + want);
        }
    }

    private static void feed(SlowWells x, String text) {
        for (int i = 0; i < text.length(); i++) {
            x.feed(text.charAt(i), 1);
        }
    }

    private static int read(SlowWells x, String text) {
        feed(x, text);
        return x.waste();
    }

    private static SlowWells with(String text) {
        SlowWells x = new SlowWells();
        due("waste of " + text, read(x, text), 0);
        return x;
    }

    /** RULES 0 .. 6 of KINDS 0 .. 6. */
    private static void addRules(SlowWells x, int v) {
        for (int kind = 0; kind <= 6; kind++) {
            due("rule", x.rule(kind, v), kind);
        }
    }

    public static void main(String[] args) {
        aNewObject();
        feeding();
        faults();
        wastes();
        ofTheWaste();
        holding();
        drinking();
        oddsOfWells();
        ever();
        rules();
        rows();
        caravans();
        would();
        stands();
        best();
        goes();
        hand();
        gone();
        sizes();
        several();
        all();
        likely();
        dig();
        judge();
        image();
        acts();
        taken();
        counts();
        tapes();
        shift();
        System.out.println(wrong == 0 ? "all promises hold" : wrong + " answers are wrong");
        if (wrong != 0) {
            System.exit(1);
        }
    }

    private static void aNewObject() {
        promise = "1";
        SlowWells x = new SlowWells();
        for (int i = 0; i <= 6; i++) {
            due("count", x.count(i), 0);
        }
        due("of", x.of(0), STATE);
        due("rule 0", x.taken(0, 0), NOTHING);
        for (int i = 0; i < 6; i++) {
            due("tape", x.item(i, 0, 1), NOTHING);
        }
        due("image", x.undo(), STATE);
        due("constants", SlowWells.NONE * 1000 + SlowWells.BAD * 100 + SlowWells.STATE * 10 + SlowWells.FULL, -1234);
        due("NO", SlowWells.NO, NO);
    }

    private static void feeding() {
        promise = "2";
        SlowWells x = new SlowWells();
        due("none", x.feed(7, 0), 0);
        due("one", x.feed(0x77, 1), 1);
        due("four", x.feed(0x61792031, 4), 5);
        due("read", x.waste(), 0);
        due("of", x.of(30), 1);
        due("two", x.feed(0x12347761, 2), 2);
        due("three", x.feed(0xff792034, 3), 5);
        due("read", x.waste(), 1);
        due("of", x.of(30), 4);
        due("n", x.feed(0, 5), BAD);
        due("n", x.feed(0, -1), BAD);
        for (int i = 1; i <= 24; i++) {
            due("many", x.feed(0, 4), 4 * i);
        }
        due("99", x.feed(0, 3), 99);
        due("over", x.feed(0, 2), FULL);
        due("still", x.count(5), 99);
        due("100", x.feed(0, 1), 100);
        due("over", x.feed(0, 1), FULL);
        due("none more", x.feed(0, 0), 100);
        due("n first", x.feed(0, 5), BAD);
    }

    private static void fault(String text, int place) {
        SlowWells x = new SlowWells();
        due("fault of " + text, read(x, text), -10 - place);
        due("the text behind " + text, x.count(5), 0);
        due("no waste behind " + text, x.of(0), STATE);
    }

    private static void faults() {
        promise = "3, faults";
        fault("", 0);
        fault("x", 0);
        fault("w", 1);
        fault("wx", 1);
        fault("wall 1 1", 2);
        fault("way", 3);
        fault("way  1", 4);
        fault("way 12", 5);
        fault("way x", 4);
        fault("well 100 1", 7);
        fault("well 1", 6);
        fault("well 1 100", 9);
        fault("carry 123", 8);
        fault("carry 1;", 8);
        fault("carry 1;;", 8);
        fault("carry 1 ", 7);
        fault("lode 1", 2);
        fault("load -1", 5);
        fault("stop 1", 2);
        fault("drunk 1", 2);
        fault("load 100", 7);
        fault("stand 100", 8);
        fault("drink 100 h=1", 8);
        fault("drink 1", 7);
        fault("drink 1 ", 8);
        fault("drink 1 h", 9);
        fault("drink 1 h1", 9);
        fault("drink 1 h<", 10);
        fault("drink 1 h<123", 12);
        fault("drink 1 x<1", 8);
        fault("drink 1 h<1)", 11);
        fault("drink 1 (h<1", 12);
        fault("drink 1 (h<1;", 12);
        fault("drink 1 h<1&", 12);
        fault("drink 1 h<1&|", 12);
        fault("drink 1 ((((h<1))))&(((((h<1", 24);
        fault("drink 1 !!!!!h<1", 12);
        fault("drink 1 !(!(!h<1", 12);
        fault("drink 1 !(h<1&(b=1|!(h=1", 20);
        fault("way 1;way 1;way 1;way 1;way 1;way 1;way 1;way 1;way 1;way 1;way 1;way 1;", 71);
        fault("way 1\u00e9", 5);
        SlowWells x = new SlowWells();
        due("four deep, side by side", read(x, "drink 1 !!!!h<1&!!!!h>1|((((h=1))))&!(!(h=1))"), 0);
        due("twelve", read(x, "way 1;way 1;way 1;way 1;way 1;way 1;way 1;way 1;way 1;way 1;way 1;way 1"), 1);
    }

    private static void wastes() {
        promise = "3";
        SlowWells x = with("well 5 1;way 9");
        due("holds", x.of(0), 1);
        due("odds", x.odds(0, 3), 0);
        due("fault", read(x, "well"), -14);
        due("the one that held holds", x.of(10), 5);
        due("next", read(x, "carry 3"), 1);
        due("the newest holds", x.of(0), 0);
        due("odds stay", x.odds(0, 0), 3);
        due("2", read(x, "carry 4"), 2);
        due("3", read(x, "carry 5"), 3);
        due("4", read(x, "carry 6"), 4);
        feed(x, "carry 7");
        due("5", x.waste(), FULL);
        due("the text stays", x.count(5), 7);
        due("4 holds", x.of(1), 6);
        SlowWells f = new SlowWells();
        due("a fault at the end", read(f, "well 9 9;way 7;carry 7;load 7;stand 7;drink 7 h<24;"), -61);
        due("nothing of it stays", read(f, "carry 6;carry 10"), 0);
        due("wells", f.of(0), 0);
        due("load", f.of(2), 1);
        due("stand", f.of(3), 0);
        due("way", f.of(30), 3);
        due("drink", f.drinks(0, 0, 1), 0);
        SlowWells y = with(PLAIN);
        y.rule(0, 0);
        y.caravan(2, 0, 0);
        y.goes(0);
        due("drawn", y.holds(0, 2), 16);
        due("again", read(y, PLAIN), 1);
        due("full", y.holds(0, 2), 20);
        due("as from hour 0 on", y.would(0, 0), 6);
    }

    private static void ofTheWaste() {
        promise = "4";
        SlowWells x = new SlowWells();
        for (int what : new int[] {-1, 4, 9, 15, 19, 25, 29, 36, 39, 40, Integer.MIN_VALUE, Integer.MAX_VALUE}) {
            due("of " + what, x.of(what), NONE);
        }
        for (int what : new int[] {0, 3, 10, 14, 20, 24, 30, 35}) {
            due("of " + what, x.of(what), STATE);
        }
        read(x, "way 0;well 1 2;well 33 44");
        int[] wants = {2, 10, 1, 0};
        for (int what = 0; what <= 3; what++) {
            due("of " + what, x.of(what), wants[what]);
        }
        due("full", x.of(10), 1);
        due("full", x.of(11), 33);
        due("full", x.of(12), NONE);
        due("gives", x.of(20), 2);
        due("gives", x.of(21), 44);
        due("gives", x.of(22), NONE);
        due("a way of 0", x.of(30), 1);
        due("a way not told", x.of(31), 3);
        due("the last way", x.of(32), 3);
        due("no way", x.of(33), NONE);
        due("again", read(x, "well 1 1;well 2 2;well 3 3;well 4 4;well 5 5;well 6 6;carry 1;carry 0;load 0;stand 9"), 1);
        due("five wells", x.of(0), 5);
        due("the last carry", x.of(1), 0);
        due("load", x.of(2), 0);
        due("stand", x.of(3), 9);
        due("well 4", x.of(14), 5);
        due("way 5", x.of(35), 3);
        due("ways", read(x, "way 1;way 2;way 3;way 4;way 5;way 6;way 7;well 1 1"), 2);
        due("way 1", x.of(31), 2);
        due("way 2", x.of(32), NONE);
    }

    private static void holding() {
        promise = "5";
        SlowWells x = new SlowWells();
        due("well", x.holds(-1, 0), NONE);
        due("well", x.holds(5, -1), NONE);
        due("hour", x.holds(4, -1), BAD);
        due("hour", x.holds(4, 1000), BAD);
        due("no waste", x.holds(4, 999), STATE);
        read(x, PLAIN);
        due("no such well", x.holds(2, 0), NONE);
        due("hour first", x.holds(2, 1000), BAD);
        due("full", x.holds(0, 999), 20);
        x.rule(0, 0);
        x.caravan(2, 0, 0);
        x.goes(0);
        int[] wants = {16, 16, 16, 18, 20, 20};
        for (int hour = 0; hour < wants.length; hour++) {
            due("at " + hour, x.holds(0, hour), wants[hour]);
        }
        due("well 1", x.holds(1, 5), 3);
        due("well 1", x.holds(1, 6), 6);
        due("well 1", x.holds(1, 8), 9);
    }

    private static void drinking() {
        promise = "6";
        SlowWells x = new SlowWells();
        due("way", x.drinks(-1, 0, 1), NONE);
        due("way", x.drinks(6, -1, 1), NONE);
        due("hour", x.drinks(5, -1, 1), BAD);
        due("hour", x.drinks(5, 1000, 1), BAD);
        due("beasts", x.drinks(5, 0, 0), BAD);
        due("beasts", x.drinks(5, 0, 10), BAD);
        due("no waste", x.drinks(5, 999, 9), STATE);
        read(x, "well 1 1;drink 1 h<6|h>22;drink 20 b=2&h=5;drink 40 !w=0");
        due("no such way", x.drinks(2, 0, 1), NONE);
        due("night", x.drinks(0, 0, 1), 1);
        due("5", x.drinks(0, 5, 1), 1);
        due("5, two", x.drinks(0, 5, 2), 21);
        due("6", x.drinks(0, 6, 2), 0);
        due("22", x.drinks(0, 22, 2), 0);
        due("23", x.drinks(0, 23, 2), 1);
        due("the next day", x.drinks(0, 29, 2), 21);
        due("behind well 0", x.drinks(1, 29, 2), 61);
        due("999 is 15", x.drinks(1, 999, 2), 40);
        read(x, "drink 1 h=1|h=2&b=3;drink 10 (h=1|h=2)&b=3;drink 50 !h<5&h<7");
        due("& first", x.drinks(0, 1, 1), 1);
        due("& first", x.drinks(0, 2, 1), 0);
        due("all", x.drinks(0, 1, 3), 11);
        due("all", x.drinks(0, 2, 3), 11);
        due("! first", x.drinks(0, 5, 3), 50);
        due("! first", x.drinks(0, 8, 3), 0);
        read(x, "drink 1 h>22;drink 2 h>23;drink 4 h<24;drink 8 h=24;drink 16 h<0;drink 32 b>8");
        due("edges", x.drinks(0, 23, 9), 37);
        due("edges", x.drinks(0, 0, 8), 4);
    }

    private static void oddsOfWells() {
        promise = "7";
        SlowWells x = new SlowWells();
        due("well", x.odds(-1, 0), NONE);
        due("well", x.odds(5, 11), NONE);
        due("n", x.odds(4, 11), BAD);
        due("n", x.odds(4, -1), BAD);
        due("first", x.odds(4, 10), 0);
        due("then", x.odds(4, 0), 10);
        due("then", x.odds(4, 2), 0);
    }

    private static void ever() {
        promise = "8";
        SlowWells x = new SlowWells();
        due("hour", x.ever(-1), BAD);
        due("hour", x.ever(1000), BAD);
        due("no waste", x.ever(999), STATE);
        read(x, "well 10 3;well 4 9");
        due("at once", x.ever(0), 14);
        due("an hour", x.ever(1), 14 + 3 + 4);
        due("999", x.ever(999), 14 + 999 * 7);
        x.rule(0, 0);
        x.caravan(9, 0, 0);
        x.goes(0);
        due("from hour 0 on", x.ever(0), 14);
        read(x, "way 1");
        due("no wells", x.ever(5), 0);
    }

    private static void rules() {
        promise = "9";
        SlowWells x = new SlowWells();
        due("kind", x.rule(-1, 9), NONE);
        due("kind", x.rule(7, 0), NONE);
        due("v", x.rule(0, 7), BAD);
        due("v", x.rule(6, -1), BAD);
        for (int i = 0; i < 10; i++) {
            due("number", x.rule(i % 7, i % 7), i);
        }
        due("full", x.rule(0, 0), FULL);
        due("v first", x.rule(0, 7), BAD);
        due("how many", x.count(1), 10);
    }

    private static void rows() {
        promise = "10";
        SlowWells x = new SlowWells();
        due("no rule", x.row(0, 9), NONE);
        x.rule(3, 0);
        x.rule(0, 0);
        due("no rule", x.row(-1, 0), NONE);
        due("no rule", x.row(2, 0), NONE);
        due("n first", x.row(1, 7), BAD);
        due("n", x.row(0, -1), BAD);
        due("not told", x.row(1, 6), STATE);
        for (int i = 1; i <= 5; i++) {
            due("how many", x.row(0, i), i);
        }
        due("full", x.row(0, 0), FULL);
        due("n first", x.row(0, 7), BAD);
    }

    private static void caravans() {
        promise = "11";
        SlowWells x = new SlowWells();
        due("no rule", x.caravan(0, 0, 0), NONE);
        x.rule(0, 0);
        due("no rule", x.caravan(1, 0, 1), NONE);
        due("no rule", x.caravan(1, 0, -1), NONE);
        due("beasts", x.caravan(0, 0, 0), BAD);
        due("beasts", x.caravan(10, 0, 0), BAD);
        due("start", x.caravan(1, -1, 0), BAD);
        due("start", x.caravan(1, 100, 0), BAD);
        for (int i = 0; i < 6; i++) {
            due("number", x.caravan(9, 99, 0), i);
        }
        due("full", x.caravan(1, 0, 0), FULL);
        due("start first", x.caravan(1, 100, 0), BAD);
    }

    private static void would() {
        promise = "12";
        SlowWells x = new SlowWells();
        x.rule(0, 0);
        due("no caravan", x.would(0, 0), NONE);
        x.caravan(2, 0, 0);
        x.caravan(2, 22, 0);
        x.caravan(4, 0, 0);
        for (int what : new int[] {-1, 3, 9, 15, 19, 25, 30}) {
            due("what " + what, x.would(0, what), NONE);
        }
        for (int what : new int[] {0, 1, 2, 10, 14, 20, 24}) {
            due("no waste " + what, x.would(0, what), STATE);
        }
        due("no caravan", x.would(-1, 0), NONE);
        due("no caravan", x.would(3, 0), NONE);
        read(x, PLAIN);
        due("over", x.would(0, 0), 6);
        due("not lost", x.would(0, 1), NOT);
        due("worth", x.would(0, 2), 8);
        due("stand", x.would(0, 10), 0);
        due("stand", x.would(0, 11), 0);
        due("no well", x.would(0, 12), NONE);
        due("water", x.would(0, 20), 6);
        due("water", x.would(0, 21), 4);
        due("no well", x.would(0, 22), NONE);
        due("another start", x.would(1, 0), 28);
        due("nothing was drawn", x.holds(0, 2), 20);
        // four come to well 1 with 8 and draw 9: no more than the well holds
        due("more beasts", x.would(2, 21), 8);
        due("more beasts", x.would(2, 0), 6);
        read(x, "well 5 0;well 9 9;way 2;way 3;way 1;drink 1 h<99;carry 4;load 4");
        // 8, 4 at well 0, 9 - 1 (all it can carry is 8), 2 at well 1
        due("enough to the drop", x.would(0, 20), 4);
        due("enough to the drop", x.would(0, 21), 2);
        due("enough to the drop", x.would(0, 0), 6);
        // four: 16, 8 at well 0, 13 there, 1 at well 1, 10, 6 in the end
        due("four", x.would(2, 21), 1);
        due("four", x.would(2, 0), 6);
        x.caravan(5, 0, 0);
        // five: 20, 10 at well 0, 15 there, 0 at well 1, 9, 4 in the end
        due("five", x.would(3, 21), 0);
        due("five", x.would(3, 0), 6);
        x.caravan(6, 0, 0);
        // six: 24, 12 at well 0, 17 there: not enough for 18
        due("six", x.would(4, 0), NOT);
        due("six", x.would(4, 1), 1);
        due("six", x.would(4, 2), 0);
        due("six", x.would(4, 10), 0);
        due("six", x.would(4, 11), NOT);
        due("six", x.would(4, 20), 12);
        due("six", x.would(4, 21), NOT);
        read(x, "way 9;drink 2 h<99;carry 18");
        due("no wells", x.would(0, 0), 9);
        read(x, "way 9;drink 2 h<99;carry 17");
        due("no wells", x.would(0, 0), NOT);
        due("no wells", x.would(0, 1), 0);
    }

    private static void stand(SlowWells x, int caravan, int well, int want) {
        due("stand of " + caravan + " at " + well, x.would(caravan, 10 + well), want);
    }

    private static void stands() {
        promise = "12, stands";
        SlowWells x = new SlowWells();
        addRules(x, 4);
        x.row(3, 5);
        // each comes to well 0 at hour 9 with 1 of 10
        read(x, "well 9 9;well 20 1;way 9;way 1;way 1;drink 1 h<99;carry 10;stand 0");
        x.caravan(1, 0, 0);
        x.caravan(1, 0, 1);
        x.caravan(1, 0, 2);
        x.caravan(1, 0, 3);
        x.caravan(1, 0, 4);
        x.caravan(1, 0, 6);
        stand(x, 0, 0, 0);
        stand(x, 1, 0, 0);
        stand(x, 2, 0, 3);
        stand(x, 2, 1, 0);
        stand(x, 3, 0, 5);
        stand(x, 3, 1, 0);
        stand(x, 4, 0, 1);
        stand(x, 5, 0, 0);
        due("with how much", x.would(5, 20), 1);
        // there at hour 10, with 9 of 10
        stand(x, 5, 1, 2);
        due("with how much", x.would(5, 21), 9);
        // well 0 is empty behind hour 9, and gives 3 an hour; 9 are wanted
        read(x, "well 9 3;way 9;way 1;drink 1 h<99;carry 10;stand 0");
        x.goes(0);
        stand(x, 1, 0, 3);
        stand(x, 4, 0, 4);
        due("over", x.would(1, 0), 13);
        // 2 an hour: they are not there in 4 hours
        read(x, "well 9 2;way 9;way 1;drink 1 h<99;carry 10;stand 0");
        x.goes(0);
        stand(x, 1, 0, 4);
        stand(x, 4, 0, 5);
        // standing drinks too, but does not count: 6 are wanted as it begins to stand
        read(x, "well 6 2;way 6;way 1;drink 1 h<99;carry 10;stand 1");
        x.goes(0);
        stand(x, 1, 0, 3);
        SlowWells y = with("well 9 0;way 1;way 1;drink 1 h<99");
        y.rule(4, 6);
        y.rule(2, 6);
        y.rule(6, 6);
        y.rule(2, 1);
        y.caravan(1, 0, 0);
        y.goes(0);
        y.caravan(9, 11, 0);
        stand(y, 1, 0, 6);
        y.caravan(1, 4, 1);
        y.caravan(1, 10, 1);
        y.caravan(1, 22, 1);
        y.caravan(1, 23, 1);
        stand(y, 2, 0, 6);
        stand(y, 3, 0, 1);
        stand(y, 4, 0, 0);
        stand(y, 5, 0, 6);
        SlowWells z = with("well 9 0;way 5;way 1;drink 1 h<99;carry 10");
        z.rule(6, 3);
        z.caravan(1, 0, 0);
        z.caravan(1, 5, 0);
        z.caravan(1, 1, 0);
        // with 5 of 10 it is not less than half
        stand(z, 0, 0, 3);
        stand(z, 1, 0, 2);
        read(z, "well 9 0;way 6;way 1;drink 1 h<99;carry 10");
        stand(z, 0, 0, 0);
        promise = "12, right before";
        SlowWells r = with("well 9 1;way 2;way 1;drink 1 h<99;stand 0");
        r.rule(1, 6);
        r.rule(0, 0);
        r.caravan(4, 10, 1);
        r.caravan(4, 0, 0);
        due("the later one", r.goes(0), 13);
        // well 0 was drawn from at 12: 8 wanted, 9 - 8 left, it stands till 12, and 6 more
        due("its stand", r.would(1, 10), 6);
        due("over", r.would(1, 0), 19);
        read(r, PLAIN);
        r.caravan(2, 10, 1);
        r.caravan(2, 0, 1);
        due("the later one", r.goes(2), 16);
        due("lost standing at well 0", r.would(3, 1), 1);
        due("lost", r.would(3, 0), NOT);
        due("came with", r.would(3, 20), 6);
        due("never got so far as to stand by its rule", r.would(3, 10), NOT);
        // three hours are what 6 of water last two beasts
        r.caravan(2, 7, 1);
        due("just enough", r.would(4, 0), 16);
        r.caravan(2, 6, 1);
        due("not enough", r.would(5, 1), 1);
    }

    private static void best() {
        promise = "12, best";
        SlowWells x = with("well 6 2;well 2 1;way 2;way 2;way 6;drink 1 h<99;carry 6");
        x.rule(5, 0);
        x.rule(0, 0);
        x.caravan(1, 0, 0);
        x.caravan(1, 0, 1);
        due("no need to stand", x.would(0, 0), 10);
        due("no need to stand", x.would(0, 10) * 10 + x.would(0, 11), 0);
        x.goes(1);
        // now well 0 holds 4 at hour 2, and well 1 nothing at 4, but the last way needs 6: it comes to well 1 with
        // 4, and goes on from there at 6; one hour at each well do as well, but 0 and 2 come first as a row
        due("over", x.would(0, 0), 12);
        due("at well 0", x.would(0, 10), 0);
        due("at well 1", x.would(0, 11), 2);
        read(x, "well 0 9;way 9;way 2;drink 1 h<99;carry 10");
        due("none: lost", x.would(0, 0), NOT);
        due("none: it stands nowhere", x.would(0, 10), 0);
        due("none: lost", x.would(0, 1), 1);
        // nobody drinks at noon: waiting pays, though standing costs
        read(x, "well 0 0;way 1;way 6;drink 2 h<3;drink 9 h=3;carry 9;stand 1");
        due("by day", x.would(0, 0), 10);
        due("by day", x.would(0, 10), 3);
        // both wells are empty when it comes: an hour at the first brings what three at the second do
        SlowWells y = with("well 3 3;well 3 1;way 3;way 1;way 7;drink 1 h<24;carry 8");
        y.rule(5, 0);
        y.rule(0, 0);
        y.caravan(1, 0, 0);
        y.caravan(3, 0, 1);
        due("the first", y.goes(1), NOT);
        due("over", y.would(0, 0), 12);
        due("at well 0", y.would(0, 10), 1);
        due("at well 1", y.would(0, 11), 0);
        // a row that was found has no say in the next one, of which none comes over
        read(y, "well 3 3;well 3 1;way 3;way 3;way 9;drink 1 h<24;carry 6");
        due("none", y.would(0, 0), NOT);
        due("at well 0", y.would(0, 10), 0);
        due("at well 1", y.would(0, 11), 0);
        // each well gives in six hours what the next way needs, and was emptied six hours ahead
        SlowWells z = with("well 6 1;well 6 1;well 6 1;well 6 1;well 6 1;drink 2 h<24;carry 6");
        z.rule(5, 0);
        z.rule(3, 0);
        z.caravan(1, 0, 0);
        z.caravan(1, 0, 1);
        for (int i = 0; i < 5; i++) {
            z.row(1, 6);
        }
        due("the first", z.goes(1), 48);
        due("six hours at each", z.would(0, 0), 54);
        for (int k = 0; k < 5; k++) {
            due("well " + k, z.would(0, 10 + k), 6);
        }
        // nine drink on way 0 alone and empty all wells; three come to each six hours later than they could, and more
        // is wanted at each: the longest stands there are at all wells, in the longest text
        SlowWells l = with("well 6 1;well 12 1;well 18 1;well 24 1;well 30 1;way 5;way 1;way 2;way 3;way 4;way 5;"
            + "drink 2 b=3|w=0");
        l.rule(5, 0);
        l.rule(0, 0);
        l.caravan(3, 0, 0);
        l.caravan(9, 0, 1);
        due("nine", l.goes(1), 20);
        due("three", l.would(0, 0), 50);
        for (int k = 0; k < 5; k++) {
            due("well " + k, l.would(0, 10 + k), 6);
            due("it comes with nothing", l.would(0, 20 + k), 0);
        }
    }

    private static void goes() {
        promise = "13";
        SlowWells x = new SlowWells();
        x.rule(0, 0);
        due("no caravan", x.goes(0), NONE);
        x.caravan(6, 0, 0);
        x.caravan(2, 0, 0);
        due("no waste", x.goes(0), STATE);
        due("no caravan", x.goes(2), NONE);
        read(x, "well 5 0;well 9 9;way 2;way 3;way 1;drink 1 h<99;carry 4;load 4");
        due("lost", x.goes(0), NOT);
        due("what it drew is gone", x.holds(0, 2), 0);
        due("it did not come there", x.holds(1, 5), 9);
        due("the next has less", x.would(1, 0), NOT);
        due("lost", x.would(1, 1), 1);
        read(x, PLAIN);
        due("over", x.goes(1), 6);
        due("over", x.goes(1), 6);
        due("twice drawn", x.holds(0, 2), 12);
        // 10, 6, 10, 4, and there are 3: 7, 5 in the end
        due("well 1", x.holds(1, 5), 0);
    }

    private static void hand() {
        promise = "14";
        SlowWells x = new SlowWells();
        due("n", x.hand(7), BAD);
        due("n", x.hand(-2), BAD);
        for (int i = 1; i <= 5; i++) {
            due("how many", x.hand(i), i);
        }
        due("full", x.hand(0), FULL);
        due("n first", x.hand(7), BAD);
        due("empty", x.hand(-1), 0);
        due("again", x.hand(6), 1);
        due("count", x.count(4), 1);
    }

    private static void gone() {
        promise = "15";
        SlowWells x = new SlowWells();
        x.rule(1, 6);
        due("no caravan", x.gone(0, 0), NONE);
        x.caravan(2, 0, 0);
        due("what", x.gone(0, 3), NONE);
        due("what", x.gone(0, 15), NONE);
        due("no waste", x.gone(0, 14), STATE);
        read(x, PLAIN);
        due("an empty row", x.gone(0, 0), 6);
        due("no well", x.gone(0, 12), NONE);
        x.hand(1);
        // 10, 6, 4 behind an hour, 10, 4, 10, 8
        due("over", x.gone(0, 0), 7);
        due("not lost", x.gone(0, 1), NOT);
        due("worth", x.gone(0, 2), 8);
        due("stand", x.gone(0, 10), 1);
        due("0 beyond its end", x.gone(0, 11), 0);
        due("came with", x.gone(0, 20), 6);
        due("came with", x.gone(0, 21), 4);
        x.hand(3);
        due("lost standing at well 1", x.gone(0, 1), 2);
        due("its stand", x.gone(0, 11), 3);
        due("lost", x.gone(0, 0), NOT);
        due("worth", x.gone(0, 2), 0);
        x.hand(-1);
        x.hand(4);
        due("lost standing at well 0", x.gone(0, 1), 1);
        due("not come to well 1", x.gone(0, 11), NOT);
        due("not come to well 1", x.gone(0, 21), NOT);
        x.hand(-1);
        due("an empty row again", x.gone(0, 10), 0);
        due("its rule has no say", x.gone(0, 0), 6);
        due("nothing was drawn", x.holds(0, 2), 20);
    }

    private static void sizes() {
        promise = "16";
        SlowWells x = new SlowWells();
        due("no rule", x.size(-1, 0, 0), NONE);
        x.rule(0, 0);
        due("what", x.size(-1, 0, 2), NONE);
        due("what", x.size(0, 0, -1), NONE);
        due("start", x.size(-1, 0, 0), BAD);
        due("start", x.size(100, 0, 1), BAD);
        due("no waste", x.size(99, 0, 1), STATE);
        read(x, "well 5 0;well 9 9;way 2;way 3;way 1;drink 1 h<99;carry 4;load 4");
        due("size", x.size(0, 0, 0), 5);
        due("edge", x.size(0, 0, 1), 6);
        read(x, "well 5 0;well 9 9;way 2;way 3;way 1;drink 1 h<99;carry 4;load 0");
        due("no worth: the fewest", x.size(0, 0, 0), 1);
        read(x, "carry 1;drink 9 h<99");
        due("none comes over", x.size(0, 0, 0), 0);
        due("one is lost", x.size(0, 0, 1), 1);
        read(x, "carry 0");
        due("all come over", x.size(0, 0, 0), 9);
        due("none is lost", x.size(0, 0, 1), 0);
        // more than six drink less, but two are lost
        read(x, "way 1;drink 1 b>1&b<4;drink 1 b=9;carry 0");
        due("size", x.size(0, 0, 0), 8);
        due("edge", x.size(0, 0, 1), 2);
    }

    private static void several() {
        promise = "17";
        SlowWells x = new SlowWells();
        due("no caravan", x.several(0), NONE);
        x.rule(0, 0);
        x.caravan(1, 0, 0);
        due("one", x.several(0), 1);
        due("no caravan", x.several(1), NONE);
        due("no caravan", x.several(-2), NONE);
        due("the same", x.several(0), 2);
        due("three", x.several(0), 3);
        due("full", x.several(0), FULL);
        due("none", x.several(-1), 0);
        due("one", x.several(0), 1);
        due("count", x.count(3), 1);
    }

    private static void all() {
        promise = "18";
        SlowWells x = new SlowWells();
        due("what", x.all(-1), NONE);
        due("what", x.all(6), NONE);
        due("no such one", x.all(10), NONE);
        due("no waste", x.all(0), STATE);
        due("no waste", x.all(5), STATE);
        x.rule(0, 0);
        x.caravan(2, 0, 0);
        x.caravan(4, 1, 0);
        x.caravan(1, 30, 0);
        x.several(0);
        due("no waste", x.all(10), STATE);
        due("no such one", x.all(11), NONE);
        // both drink 1 an hour, carry 5: the one that goes second finds well 0 empty
        read(x, "well 8 0;way 4;way 4;drink 1 h<99;carry 5;load 3");
        due("alone", x.all(0), 6);
        due("alone", x.all(2), 0);
        due("alone", x.all(3), NOT);
        due("alone", x.all(4), NOT);
        due("alone", x.all(10), 8);
        x.several(1);
        // 0 takes all 8, and 1 has 4 of 16 that it needs; if 1 is first, it is lost too: 4 + 8 of 16
        due("worth", x.all(0), 6);
        due("the last one over", x.all(1), 8);
        due("0", x.all(10), 8);
        due("1", x.all(11), NOT);
        due("2", x.all(12), NONE);
        due("order", x.all(2) * 10 + x.all(3), 1);
        due("by order", x.all(5), 6);
        read(x, "well 16 0;way 4;way 4;drink 1 h<99;carry 5;load 3");
        due("worth", x.all(0), 6);
        // 1 first: 4 + 16 are 20, over; 0 then finds nothing: the worth of 4 is more
        due("order", x.all(2), 1);
        due("order", x.all(3), 0);
        due("order", x.all(4), NOT);
        due("by order", x.all(5), 12);
        due("the order changes nothing", x.all(10), 8);
        x.several(2);
        due("three", x.all(1), 8);
        due("what is asked changes nothing", x.holds(0, 99), 16);
        x.several(-1);
        due("none", x.all(0), 0);
        due("none", x.all(1), NOT);
        due("none", x.all(2), NOT);
        due("none", x.all(5), 0);
        due("none", x.all(10), NONE);
        promise = "18, order";
        // without drink: the right before makes the later ones wait, so the earlier start goes first
        SlowWells y = with("well 9 1;way 1;way 1");
        y.rule(1, 3);
        y.caravan(1, 9, 0);
        y.caravan(1, 5, 0);
        y.caravan(1, 0, 0);
        y.several(0);
        y.several(1);
        y.several(2);
        due("all wait for 0", y.all(1), 11);
        due("of several the first as a row", y.all(2) * 100 + y.all(3) * 10 + y.all(4), 12);
        due("hours", y.all(10), 11);
        due("hours", y.all(11), 11);
        due("hours", y.all(12), 11);
        // three fill up at the one well and drink on the way to it: an order by start waits least
        SlowWells z = with("well 9 1;way 5;way 1;drink 1 w=0");
        z.rule(1, 6);
        z.caravan(1, 9, 0);
        z.caravan(1, 5, 0);
        z.several(0);
        z.several(1);
        // 0: at 14, 9 - 5, on at 14; 1 waits till 14, one hour more; 1 first: at 10, 4 left, 8 at 14
        due("0 first", z.all(1), 16);
        due("1 first", z.all(2), 1);
        due("none is worth more", z.all(5), 2);
        due("0", z.all(10), 15);
        due("1", z.all(11), 16);
    }

    private static void likely() {
        promise = "19";
        SlowWells x = new SlowWells();
        x.rule(0, 0);
        due("no caravan", x.likely(0, 0) == NO ? 1 : 0, 1);
        x.caravan(1, 0, 0);
        due("no waste", x.likely(0, 0) == NO ? 1 : 0, 1);
        read(x, "well 9 9;well 9 9;way 4;way 4;way 4;drink 1 h<99;carry 9");
        due("part", x.likely(0, 2) == NO ? 1 : 0, 1);
        due("part", x.likely(0, -1) == NO ? 1 : 0, 1);
        due("no caravan", x.likely(1, 0) == NO ? 1 : 0, 1);
        due("sure", x.likely(0, 0), 1);
        due("sure", x.likely(0, 1), 1);
        // 12 to drink, 9 carried: it needs one of them
        x.odds(0, 5);
        due("one does", x.likely(0, 0), 1);
        x.odds(1, 4);
        due("8 of 10", x.likely(0, 0), 4);
        due("8 of 10", x.likely(0, 1), 5);
        x.odds(0, 10);
        due("6 of 10", x.likely(0, 0), 3);
        due("6 of 10", x.likely(0, 1), 5);
        x.odds(1, 10);
        due("never", x.likely(0, 0), 0);
        due("never", x.likely(0, 1), 1);
        x.odds(4, 5);
        due("no such well", x.likely(0, 1), 1);
        x.odds(0, 1);
        x.odds(1, 3);
        due("97 of 100", x.likely(0, 0), 97);
        due("97 of 100", x.likely(0, 1), 100);
        promise = "19, best knows";
        // behind a dry well 0 it must stand at well 1; a full one lets it go on
        SlowWells y = with("well 2 0;well 1 1;way 4;way 4;way 6;drink 1 h<99;carry 9");
        y.rule(5, 0);
        y.rule(1, 6);
        y.caravan(1, 0, 0);
        y.caravan(1, 0, 1);
        y.odds(1, 5);
        due("needs both", y.likely(0, 0), 0);
        due("waits as long as it says", y.likely(1, 0), 0);
        read(y, "well 9 1;well 9 9;way 4;way 4;way 4;drink 1 h<99;carry 9;stand 1");
        y.caravan(1, 0, 0);
        y.goes(2);
        // well 0 holds 5 behind that and is wanted 4: both go on at once
        due("best", y.likely(0, 0), 1);
        y.odds(0, 5);
        // dry wells: a WAIT stands 6 hours at each of them, and is lost: 5 left when it comes to well 0
        due("best without one", y.likely(0, 0) * 10 + y.likely(0, 1), 34);
        due("wait", y.likely(1, 0) * 10 + y.likely(1, 1), 14);
    }

    private static void dig() {
        promise = "20";
        SlowWells x = new SlowWells();
        x.rule(0, 0);
        due("no caravan", x.dig(0, 100, 0, 0), NONE);
        x.caravan(1, 0, 0);
        due("what", x.dig(0, 100, 0, 2), NONE);
        due("what", x.dig(0, 100, 0, -1), NONE);
        due("f", x.dig(0, 100, 0, 0), BAD);
        due("f", x.dig(0, -1, 0, 0), BAD);
        due("g", x.dig(0, 0, 100, 0), BAD);
        due("g", x.dig(0, 0, -1, 1), BAD);
        due("no waste", x.dig(0, 99, 99, 1), STATE);
        read(x, "well 9 0;way 5;way 9;drink 1 h<99;carry 6");
        // 14 hours, 6 carried: the well more 1 .. 6 behind well 0
        due("place", x.dig(0, 9, 0, 0), 103);
        due("hour", x.dig(0, 9, 0, 1), 14);
        due("too little", x.dig(0, 2, 0, 0), NOT);
        due("too little", x.dig(0, 2, 0, 1), NOT);
        // 3 there are 3 more: 6 of well 0, 9 on the way, any place at which 3 fit and that one can come to
        due("3 are enough", x.dig(0, 3, 0, 0), 103);
        // it fills: it has to wait two hours for 3 at a place where they fit
        read(x, "way 9;drink 1 h<99;carry 6");
        due("the first", x.dig(0, 9, 9, 0), 3);
        due("the first", x.dig(0, 9, 9, 1), 9);
        read(x, "way 1;drink 1 h<99;carry 6");
        due("no place", x.dig(0, 9, 9, 0), NOT);
        read(x, "well 1 1;well 1 1;well 1 1;well 1 1;well 1 1;carry 99");
        due("five wells", x.dig(0, 9, 9, 0), NOT);
        // the well more makes w one higher behind it: two hours for 3 there are more than 5
        SlowWells y = with("way 3;drink 1 w=0;drink 3 w=1;carry 5");
        y.rule(0, 0);
        y.caravan(1, 0, 0);
        due("one hour for 3 behind it", y.dig(0, 9, 9, 0), 2);
        read(y, "well 3 0;way 1;way 4;drink 1 h<99;carry 4");
        y.goes(0);
        due("full at hour 0", y.dig(0, 0, 0, 1), 5);
        due("full at hour 0", y.dig(0, 0, 0, 0), 101);
    }

    private static void judge() {
        promise = "21";
        SlowWells x = new SlowWells();
        x.rule(0, 0);
        due("no caravan", x.judge(0, 0, 0), NONE);
        x.caravan(2, 0, 0);
        due("no tape", x.judge(-1, 0, 0), NONE);
        due("no tape", x.judge(6, 0, 0), NONE);
        due("no caravan", x.judge(0, 0, 1), NONE);
        x.tape(1, 3, 9);
        due("no waste", x.judge(1, 0, 0), STATE);
        read(x, PLAIN);
        due("longs", x.judge(1, 0, 0), CAST);
        x.tape(1, 2, 3);
        due("over", x.judge(1, 0, 0), NOT);
        due("over", x.judge(1, 1, 0), NOT);
        due("the row ends at well 1", x.judge(1, 2, 0), 102);
        due("the row ends at well 0", x.judge(1, 3, 0), 101);
        due("far beyond", x.judge(1, Integer.MAX_VALUE, 0), 101);
        due("below 0", x.judge(1, -1, 0), 101);
        due("far below 0", x.judge(1, Integer.MIN_VALUE, 0), 101);
        due("nothing", x.judge(0, 0, 0), 101);
        x.item(1, 0, 4);
        due("lost standing at well 0", x.judge(1, 0, 0), 1);
        x.item(1, 0, 1);
        x.item(1, 1, 3);
        due("lost standing at well 1", x.judge(1, 0, 0), 2);
        x.item(1, 1, 7);
        due("7 at well 1", x.judge(1, 0, 0), 1);
        due("7 at well 0", x.judge(1, 1, 0), 0);
        x.item(1, 1, -1);
        due("-1 at well 1", x.judge(1, 0, 0), 1);
        x.item(1, 0, 4);
        due("both ahead of well 1", x.judge(1, 0, 0), 1);
        read(x, "well 9 9;well 9 9;way 4;way 4;way 4;drink 1 h<99;carry 3");
        due("lost on way 0", x.judge(1, 1, 0), 0);
        due("lost on way 0, the row is shorter", x.judge(1, 3, 0), 0);
        read(x, "well 9 9;well 9 9;way 2;way 2;way 4;drink 1 h<99;carry 3");
        x.tape(2, 2, 2);
        due("lost on the last way", x.judge(2, 0, 0), 2);
        read(x, "carry 9");
        due("no wells", x.judge(0, -1, 0), NOT);
        read(x, "carry 0;drink 1 h<99");
        due("no wells, lost", x.judge(0, -1, 0), 0);
    }

    private static void image() {
        promise = "22, 23";
        SlowWells x = new SlowWells();
        due("none", x.undo(), STATE);
        due("taken", x.image(), 0);
        x.rule(0, 0);
        x.caravan(2, 0, 0);
        x.several(0);
        x.hand(3);
        x.odds(2, 7);
        read(x, PLAIN);
        due("back", x.undo(), 0);
        due("no waste holds", x.of(0), STATE);
        due("wastes stay", x.count(0), 1);
        due("rules stay", x.count(1), 1);
        due("caravans stay", x.count(2), 1);
        due("several", x.count(3), 0);
        due("row", x.count(4), 0);
        due("odds", x.odds(2, 5), 0);
        due("the next waste", read(x, PLAIN), 1);
        x.several(0);
        x.several(0);
        x.hand(3);
        x.goes(0);
        due("taken", x.image(), 2);
        due("drawn", x.holds(0, 2), 16);
        x.goes(0);
        due("drawn", x.holds(0, 2), 12);
        x.hand(-1);
        x.hand(1);
        x.hand(2);
        x.several(-1);
        x.odds(2, 1);
        read(x, "way 1");
        feed(x, "way");
        due("back", x.undo(), 2);
        due("the waste", x.of(0), 2);
        due("the wells", x.holds(0, 2), 16);
        due("the wells", x.holds(0, 3), 18);
        due("row", x.count(4), 1);
        due("row", x.gone(0, 10), 3);
        due("row", x.gone(0, 11), 0);
        due("odds", x.odds(2, 6), 5);
        due("the text stays", x.count(5), 3);
        due("back again", x.undo(), 2);
        due("odds", x.odds(2, 6), 5);
        due("what came behind it is no part of it", x.several(0), 3);
        due("back once more", x.undo(), 2);
        SlowWells y = with(PLAIN);
        y.rule(0, 0);
        y.caravan(2, 0, 0);
        y.caravan(2, 30, 0);
        y.several(0);
        y.several(1);
        y.image();
        y.several(-1);
        y.several(1);
        y.several(0);
        due("turned", y.all(10), 36);
        due("back", y.undo(), 2);
        due("which they were", y.all(10), 6);
        due("which they were", y.all(11), 36);
    }

    private static void traced(SlowWells x, int rule, int act, int arg, int want, int... bodies) {
        due("act " + act + " of " + rule, x.act(rule, act, arg), want);
        due("how many ran", x.count(6), bodies.length);
        for (int i = 0; i < bodies.length; i++) {
            due("body " + i + " of act " + act + " of " + rule, x.trace(i), bodies[i]);
        }
        due("no more", x.trace(bodies.length), NONE);
    }

    private static void acts() {
        promise = "24, 25";
        SlowWells x = new SlowWells();
        due("no trace", x.trace(0), NONE);
        addRules(x, 5);
        traced(x, 0, 0, 7, 7, 10);
        traced(x, 0, 1, 7, 2, 11, 10);
        traced(x, 0, 2, 7, 4, 12, 11, 10);
        traced(x, 1, 0, 7, 8, 10);
        traced(x, 1, 1, 7, 3 ^ 6, 20, 11, 10);
        traced(x, 1, 2, 7, 10, 12, 20, 11, 10);
        traced(x, 2, 0, 7, 23, 30, 10);
        traced(x, 2, 1, 7, 18, 11, 30, 10);
        traced(x, 2, 2, 7, 36, 12, 11, 30, 10);
        traced(x, 3, 0, 7, 10, 10);
        // super.tells(7): (7 + 3 - 5) * 2, and draws(1): 1 + 3 - 5
        traced(x, 3, 2, 7, 9, 40, 12, 11, 10, 11, 10);
        traced(x, 4, 0, 7, -11, 50, 10);
        // stands(8) is -12, less 5: -17 ^ 6
        traced(x, 4, 1, 7, -17 ^ 6, 51, 20, 11, 50, 10);
        traced(x, 4, 2, 7, (-17 ^ 6) * 2, 12, 51, 20, 11, 50, 10);
        // tells(7 - 5): stands(2) is 7, less 5, ^ 6, * 2
        traced(x, 5, 2, 7, 8, 60, 12, 20, 11, 10);
        traced(x, 5, 1, 7, 7 ^ 6, 20, 11, 10);
        // stands(7): 21 + 6 are 27 ^ 5
        traced(x, 6, 0, 7, 27 ^ 5, 71, 30, 10);
        // that less 5, and super.stands(2): 6 + 6
        traced(x, 6, 1, 7, (27 ^ 5) - 5 + 12, 70, 11, 71, 30, 10, 30, 10);
        traced(x, 6, 2, 7, ((27 ^ 5) + 7) * 2, 12, 70, 11, 71, 30, 10, 30, 10);
        traced(x, 1, 0, Integer.MAX_VALUE, Integer.MIN_VALUE, 10);
        traced(x, 2, 0, Integer.MAX_VALUE, Integer.MAX_VALUE - 2 + 2, 30, 10);
        due("body", x.trace(-1), NONE);
        traced(x, 7, 0, 7, 0);
        x.act(0, 0, 0);
        traced(x, 0, 3, 7, 0);
        x.act(0, 0, 0);
        traced(x, 0, -1, 7, 0);
        x.act(0, 0, 0);
        traced(x, -1, 0, 7, 0);
    }

    private static void taken() {
        promise = "26";
        SlowWells x = new SlowWells();
        due("k first", x.taken(0, 7), BAD);
        due("k", x.taken(0, -1), BAD);
        due("no rule", x.taken(0, 0), NOTHING);
        addRules(x, 0);
        int[][] under = {{0, 1, 2, 3, 4, 5, 6}, {1, 4, 5}, {2, 6}, {3}, {4}, {5}, {6}};
        for (int k = 0; k <= 6; k++) {
            for (int rule = 0; rule <= 6; rule++) {
                int want = CAST;
                for (int one : under[k]) {
                    want = one == rule ? rule : want;
                }
                due(rule + " for " + k, x.taken(rule, k), want);
            }
        }
        due("no rule", x.taken(7, 0), NOTHING);
        due("no rule", x.taken(-1, 0), NOTHING);
    }

    private static void counts() {
        promise = "27";
        SlowWells x = with("way 1");
        read(x, "way 1");
        addRules(x, 0);
        for (int i = 0; i < 3; i++) {
            x.caravan(1, 0, 0);
        }
        for (int i = 0; i < 5; i++) {
            x.hand(i);
        }
        x.several(0);
        feed(x, "abcd");
        x.act(6, 2, 0);
        int[] wants = {2, 7, 3, 1, 5, 4, 8};
        for (int what = 0; what <= 6; what++) {
            due("count " + what, x.count(what), wants[what]);
        }
        due("what", x.count(7), BAD);
        due("what", x.count(-1), BAD);
    }

    private static void item(SlowWells x, int tape, long v, long want) {
        due("item", x.item(tape, 1, v), 1);
        due("item " + v + " of " + tape, x.read(tape, 1), want);
    }

    private static void tapes() {
        promise = "28 .. 30";
        SlowWells x = new SlowWells();
        due("no tape", x.tape(-1, 0, 0), NONE);
        due("no tape", x.tape(6, 9, 0), NONE);
        due("sort", x.tape(0, -2, 0), BAD);
        due("sort", x.tape(0, 5, -1), BAD);
        due("n", x.tape(0, 0, 61), BAD);
        due("size", x.tape(0, 0, -1), SIZE);
        due("nothing", x.tape(0, -1, 61), 1);
        due("nothing", x.tape(0, -1, -1), 1);
        due("nothing there", x.read(0, 0) == NO ? 1 : 0, 1);
        due("none", x.tape(5, 2, 0), 1);
        due("no place", x.item(5, 0, 1), PLACE);
        for (int sort = 0; sort <= 4; sort++) {
            due("tape", x.tape(sort, sort, 60), 1);
            due("all 0", x.read(sort, 59), 0);
            due("no place", x.read(sort, 60) == NO ? 1 : 0, 1);
            due("no place", x.read(sort, -1) == NO ? 1 : 0, 1);
        }
        due("no tape", x.read(-1, 0) == NO ? 1 : 0, 1);
        due("no tape", x.read(6, 0) == NO ? 1 : 0, 1);
        item(x, 0, 200, -56);
        item(x, 0, 0x7f80, -128);
        item(x, 1, 0x18000, -32768);
        item(x, 1, 65535, -1);
        item(x, 2, 0x180000000L, Integer.MIN_VALUE);
        item(x, 2, -1L, -1);
        item(x, 3, Long.MAX_VALUE, Long.MAX_VALUE);
        item(x, 4, 256, 1);
        item(x, 4, -1, 1);
        item(x, 4, 0, 0);
        due("no tape", x.item(-1, 0, 0), NONE);
        due("no tape", x.item(6, 0, 0), NONE);
        x.tape(1, -1, 0);
        due("nothing", x.item(1, -1, 0), NOTHING);
        due("place", x.item(0, -1, 0), PLACE);
        due("place", x.item(0, 60, 0), PLACE);
        x.tape(0, 0, 60);
        due("all 0 again", x.read(0, 1), 0);
    }

    private static void shift() {
        promise = "31";
        SlowWells x = new SlowWells();
        due("no tape", x.shift(-1, 0, 0, 0, 0), NONE);
        due("no tape", x.shift(0, 0, 6, 0, 0), NONE);
        due("nothing", x.shift(0, 0, 0, 0, 0), NOTHING);
        x.tape(0, 0, 5);
        x.tape(1, 1, 5);
        x.tape(2, 0, 4);
        due("nothing", x.shift(0, -1, 3, 0, 0), NOTHING);
        due("nothing", x.shift(3, 0, 0, 0, 0), NOTHING);
        due("unlike", x.shift(0, -1, 1, 0, 0), CAST);
        int far = Integer.MAX_VALUE;
        int[][] places = {{-1, 0, 1}, {0, -1, 1}, {0, 0, -1}, {2, 0, 4}, {0, 2, 3}, {0, 0, 5}, {6, 0, 0}, {0, 5, 0},
            {far, 0, far}, {0, far, far}, {1, 1, far}, {far, 0, 1}};
        for (int[] p : places) {
            due("place", x.shift(0, p[0], 2, p[1], p[2]), PLACE);
        }
        due("none", x.shift(0, 5, 2, 4, 0), 0);
        for (int i = 0; i < 5; i++) {
            x.item(0, i, i + 1);
        }
        due("to another", x.shift(0, 1, 2, 0, 4), 4);
        for (int i = 0; i < 4; i++) {
            due("item", x.read(2, i), i + 2);
        }
        due("to the same", x.shift(0, 0, 0, 1, 4), 4);
        int[] wants = {1, 1, 2, 3, 4};
        for (int i = 0; i < 5; i++) {
            due("as they were before", x.read(0, i), wants[i]);
        }
        due("back", x.shift(0, 1, 0, 0, 4), 4);
        int[] then = {1, 2, 3, 4, 4};
        for (int i = 0; i < 5; i++) {
            due("as they were before", x.read(0, i), then[i]);
        }
    }
}
