/** Boundary cases of SIZE, SEVERAL, ORDER, LIKELY, DIG and JUDGED: promises 16 to 21. */
public final class AskedEdgesTest extends Sentences {
    private static final int PLACE_OF = 0, HOUR_OF = 1;

    public static void main(String[] args) {
        size();
        sizes();
        several();
        all();
        allOfFew();
        order();
        orders();
        noneOver();
        likely();
        lowestTerms();
        dry();
        bestKnows();
        dig();
        digPlaces();
        digNumbers();
        judge();
        judged();
        judgedNumbers();
        judgedEnds();
        end();
    }

    private static void size() {
        says("Promise 16", "NONE: rule, what; BAD: start; STATE.");
        SlowWells x = new SlowWells();
        each("size(0, rule, 0)", rule -> x.size(0, rule, 0), NONE, LOW, -1, 0, 9, HIGH);
        x.rule(RULE, 0);
        each("size(0, rule, 0)", rule -> x.size(0, rule, 0), NONE, LOW, -1, 1, 9, HIGH);
        each("size(-1, rule, 0)", rule -> x.size(-1, rule, 0), NONE, outside(0, 0));
        each("size(0, 0, what)", what -> x.size(0, 0, what), NONE, outside(0, 1));
        each("size(100, 0, what)", what -> x.size(100, 0, what), NONE, outside(0, 1));
        each("size(start, 0, 0)", start -> x.size(start, 0, 0), BAD, outside(0, 99));
        each("size(start, 0, 1)", start -> x.size(start, 0, 1), STATE, 0, 99);
        each("size(0, 0, what)", what -> x.size(0, 0, what), STATE, 0, 1);
        waste(x, "way 1;drink 1 h=0;carry 0");
        each("size(start, 0, 0)", start -> x.size(start, 0, 0), BAD, outside(0, 99));
        each("size(0, rule, 0)", rule -> x.size(0, rule, 0), NONE, outside(0, 0));
        each("size(0, 0, what)", what -> x.size(0, 0, what), NONE, outside(0, 1));
        each("size(start, 0, 0)", start -> x.size(start, 0, 0), 0, 0, 24, 96);
        each("size(start, 0, 0)", start -> x.size(start, 0, 0), 9, 1, 23, 97, 99);
        due("count(2)", x.count(2), 0);
    }

    private static void sized(String text, int size, int edge) {
        SlowWells x = with(text);
        x.rule(RULE, 0);
        due("SIZE with " + text, x.size(0, 0, 0), size);
        due("EDGE with " + text, x.size(0, 0, 1), edge);
    }

    private static void sizes() {
        says("Terms 2", "how many BEASTS (1 .. 9) a CARAVAN that starts at an HOUR with a RULE should have to bring the most WORTH");
        for (int b = 1; b <= 9; b++) {
            sized("drink 1 b>" + b + ";carry 0", b, b == 9 ? 0 : b + 1);
            sized("drink 1 b=" + b + ";carry 0", b == 9 ? 8 : 9, b);
        }
        says("Terms 2", "of several the fewest, of those that come OVER (0: none does)");
        for (int b = 1; b <= 9; b++) {
            sized("drink 1 b<" + b + ";carry 0;load 0", b, b == 1 ? 0 : 1);
        }
        sized("drink 1 b<10;carry 0;load 0", 0, 1);
        sized("drink 1 b<10;carry 0;load 9", 0, 1);
        sized("load 0", 1, 0);
        says("Terms 2", "EDGE: the least with which it is LOST (0: none)");
        sized("way 1", 9, 0);
        sized("drink 1 b=9;carry 0", 8, 9);
        sized("drink 1 b=2|b=4;carry 0", 9, 2);
        says("Terms 3", "THE WELLS: as they are now");
        SlowWells x = with("well 9 0;way 1;way 1;drink 6 h<24;carry 6");
        x.rule(RULE, 0);
        x.rule(TOLD, 0);
        x.row(1, 1);
        x.caravan(1, 0, 0);
        due("9 are enough for one", x.size(0, 0, 0), 1);
        due("9 are not enough for two", x.size(0, 0, 1), 2);
        x.goes(0);
        due("3 are enough for none", x.size(0, 0, 0), 0);
        due("3 are not enough for one", x.size(0, 0, 1), 1);
        waste(x, "well 9 0;way 1;way 1;drink 6 h=1;carry 6");
        due("of another RULE", x.size(0, 1, 0), 9);
    }

    private static void several() {
        says("Promise 17", "A CARAVAN comes to SEVERAL: how many (-1: there are none then, 0). NONE; FULL: 3.");
        SlowWells x = new SlowWells();
        each("several(caravan)", x::several, NONE, LOW, -2, 0, 5, HIGH);
        due("several(-1) of none", x.several(-1), 0);
        x.rule(RULE, 0);
        x.caravan(1, 0, 0);
        each("several(caravan)", x::several, NONE, LOW, -2, 1, 5, HIGH);
        says("Terms 2", "SEVERAL: a row of CARAVANS (3 at most, as they come)");
        for (int i = 1; i <= 3; i++) {
            due("several(0)", x.several(0), i);
            due("count(3)", x.count(3), i);
        }
        due("a fourth", x.several(0), FULL);
        each("NONE ahead of FULL", x::several, NONE, LOW, -2, 1, 5, HIGH);
        due("count(3)", x.count(3), 3);
        due("several(-1) of 3", x.several(-1), 0);
        due("count(3)", x.count(3), 0);
        due("the first again", x.several(0), 1);
    }

    private static void all() {
        says("Promise 18", "NONE; STATE.");
        SlowWells x = new SlowWells();
        for (int what = -20; what <= 30; what++) {
            due("all(" + what + ") of none", x.all(what), what >= 0 && what <= 5 ? STATE : NONE);
        }
        each("all", x::all, NONE, LOW, LOW + 10, HIGH);
        x.rule(RULE, 0);
        x.caravan(1, 0, 0);
        for (int n = 1; n <= 3; n++) {
            x.several(0);
            for (int what = 6; what <= 14; what++) {
                due("all(" + what + ") of " + n, x.all(what), what >= 10 && what < 10 + n ? STATE : NONE);
            }
        }
        waste(x, "way 1");
        for (int what = -20; what <= 30; what++) {
            boolean isTold = what >= 0 && what <= 5 || what >= 10 && what <= 12;
            due("all(" + what + ") is told", x.all(what) == NONE ? 0 : 1, isTold ? 1 : 0);
        }
        each("all", x::all, NONE, LOW, LOW + 10, HIGH);
    }

    private static void allOfFew() {
        says("Promise 18", "the place of the one that goes first, second, third; -5: there are fewer");
        SlowWells x = with("way 1;load 4");
        x.rule(RULE, 0);
        x.caravan(2, 0, 0);
        for (int n = 0; n <= 3; n++) {
            due("WORTH of " + n, x.all(0), 8 * n);
            due("the HOUR of " + n, x.all(1), n == 0 ? NOT : 1);
            for (int place = 0; place < 3; place++) {
                due("ORDER of " + n + " at " + place, x.all(2 + place), place < n ? place : NOT);
                due("what comes of " + place + " of " + n, x.all(10 + place), place < n ? 1 : NONE);
            }
            due("WORTH by ORDER of " + n, x.all(5), 8 * n);
            x.several(0);
        }
        says("Promise 18", "Of SEVERAL what 0 WORTH, 1 the HOUR of the last one OVER (-5)");
        SlowWells y = with("drink 1 b=2;carry 0;way 1");
        y.rule(RULE, 0);
        y.caravan(2, 0, 0);
        y.caravan(1, 50, 0);
        y.caravan(3, 0, 0);
        y.several(0);
        due("one, and it is LOST", y.all(1), NOT);
        due("its WORTH", y.all(0), 0);
        due("what comes of it", y.all(10), NOT);
        due("ORDER of one LOST", y.all(2), 0);
        y.several(1);
        due("two", y.all(1), 51);
        y.several(2);
        says("Terms 2", "the HOUR of the last one that comes OVER");
        due("three, the latest is not the last of the row", y.all(1), 51);
        due("WORTH of 1 and 3", y.all(0), 4);
        says("Promise 18", "10 and k what the k-th comes to (its HOUR; -5)");
        due("0", y.all(10), NOT);
        due("1", y.all(11), 51);
        due("2", y.all(12), 1);
    }

    /** Whoever stands is LOST, so that only those come OVER ahead of whom nobody drew later. */
    private static final String NO_STANDING = "well 9 9;way 1;way 1;stand 9;carry 5;load 2";

    private static void order() {
        says("Terms 2", "gone one wholly behind the other (the first has the right before the second, and so on)");
        SlowWells x = with(NO_STANDING);
        x.rule(RULE, 0);
        x.caravan(1, 5, 0);
        x.caravan(2, 4, 0);
        x.caravan(3, 5, 0);
        x.several(0);
        x.several(1);
        x.several(2);
        due("0", x.all(10), 7);
        due("1 had to stand till HOUR 6", x.all(11), NOT);
        due("2 came in HOUR 6", x.all(12), 7);
        due("WORTH", x.all(0), 8);
        due("the last", x.all(1), 7);
        due("WORTH by ORDER", x.all(5), 12);
        due("1 first", x.all(2), 1);
        due("then 0", x.all(3), 0);
        due("then 2", x.all(4), 2);
        says("Terms 2", "then the first as a row of places");
        for (int n = 2; n <= 3; n++) {
            SlowWells y = with(NO_STANDING);
            y.rule(RULE, 0);
            y.caravan(1, 5, 0);
            for (int i = 0; i < n; i++) {
                y.several(0);
            }
            for (int place = 0; place < 3; place++) {
                due("all are alike", y.all(2 + place), place < n ? place : NOT);
            }
        }
    }

    private static void orders() {
        says("Terms 2", "ORDER: of all orders of these that with the most WORTH");
        int[][] orders = {{0, 1, 2}, {0, 2, 1}, {1, 0, 2}, {1, 2, 0}, {2, 0, 1}, {2, 1, 0}};
        for (int[] order : orders) {
            int[] starts = new int[3];
            for (int i = 0; i < 3; i++) {
                starts[order[i]] = 10 * i;
            }
            SlowWells x = with(NO_STANDING);
            x.rule(RULE, 0);
            for (int i = 0; i < 3; i++) {
                x.caravan(1, starts[i], 0);
                x.several(i);
            }
            for (int place = 0; place < 3; place++) {
                due("by START", x.all(2 + place), order[place]);
            }
            due("all come OVER by ORDER", x.all(5), 6);
        }
        for (int first = 0; first < 2; first++) {
            SlowWells x = with(NO_STANDING);
            x.rule(RULE, 0);
            x.caravan(1, first == 0 ? 0 : 10, 0);
            x.caravan(1, first == 0 ? 10 : 0, 0);
            x.several(0);
            x.several(1);
            due("first of two", x.all(2), first);
            due("second of two", x.all(3), 1 - first);
            due("no third", x.all(4), NOT);
        }
        says("Terms 2", "of several that with the earliest such HOUR");
        // WELL 0 holds 9 and gives 1: whoever waits for what the other drew comes later
        SlowWells y = with("well 9 1;way 5;way 1;drink 1 w=0");
        y.rule(WAIT, 6);
        y.caravan(1, 9, 0);
        y.caravan(1, 5, 0);
        y.several(0);
        y.several(1);
        // 0 draws 5 in HOUR 14; 1 stands till then, one HOUR more for 5, and comes OVER at 16
        due("as they come", y.all(1), 16);
        due("WORTH as they come", y.all(0), 2);
        // 1 draws 5 in HOUR 10; 0 finds 8 at 14, and comes OVER at 15
        due("1 first", y.all(2), 1);
        due("WORTH by ORDER", y.all(5), 2);
        says("Terms 2", "ORDER: of all orders of these that with the most WORTH");
        // one that is OVER at 2 leaves too little for two that are OVER at 7, or they leave nothing
        SlowWells z = with("well 18 0;way 1;way 1;drink 9 h<24;carry 9");
        z.rule(RULE, 0);
        z.caravan(1, 0, 0);
        z.caravan(2, 5, 0);
        z.several(0);
        z.several(1);
        due("as they come", z.all(1), 2);
        due("WORTH as they come", z.all(0), 1);
        due("the later one, of more WORTH, first", z.all(2), 1);
        due("WORTH by ORDER", z.all(5), 2);
    }

    private static void noneOver() {
        says("Terms 2", "none OVER is later than any");
        // nine empty the WELL and are LOST; one comes OVER if it is first; nobody has any WORTH
        SlowWells x = with("well 9 0;way 1;way 1;drink 9 h<24;carry 9;load 0");
        x.rule(RULE, 0);
        x.caravan(9, 0, 0);
        x.caravan(1, 0, 0);
        x.several(0);
        x.several(1);
        due("none comes OVER as they come", x.all(1), NOT);
        due("1 first", x.all(2), 1);
        due("0 then", x.all(3), 0);
        x.several(-1);
        x.several(1);
        x.several(0);
        due("one comes OVER as they come", x.all(1), 2);
        due("that order stays", x.all(2), 0);
        x.several(-1);
        x.several(0);
        x.several(0);
        x.several(0);
        due("none OVER in any order", x.all(1), NOT);
        due("the first as a row", x.all(2) * 100 + x.all(3) * 10 + x.all(4), 12);
        due("no WORTH", x.all(5), 0);
    }

    private static void likely() {
        says("Promise 19", "NO: caravan, part, no WASTE.");
        SlowWells x = new SlowWells();
        each("likely(caravan, 0)", caravan -> x.likely(caravan, 0), NO, LOW, -1, 0, 5, HIGH);
        x.rule(RULE, 0);
        x.caravan(1, 0, 0);
        each("likely(0, part), no WASTE", part -> x.likely(0, part), NO, 0, 1);
        waste(x, "way 1");
        each("likely(caravan, 0)", caravan -> x.likely(caravan, 0), NO, LOW, -1, 1, 5, HIGH);
        each("likely(0, part)", part -> x.likely(0, part), NO, outside(0, 1));
        each("likely(0, part), no WELLS", part -> x.likely(0, part), 1, 0, 1);
        waste(x, "way 1;drink 1 h<24;carry 0");
        due("LOST, above the line", x.likely(0, 0), 0);
        due("LOST, below the line", x.likely(0, 1), 1);
    }

    private static void likelyIs(SlowWells x, String of, int caravan, long above, long below) {
        due("above the line " + of, x.likely(caravan, 0), above);
        due("below the line " + of, x.likely(caravan, 1), below);
    }

    private static void lowestTerms() {
        says("Promise 19", "part 0 above, 1 below the line");
        SlowWells x = with("well 9 0;way 1;way 1;drink 9 h<24;carry 9");
        x.rule(RULE, 0);
        x.caravan(1, 0, 0);
        x.odds(0, 1);
        due("above", x.likely(0, 0), 9);
        due("below", x.likely(0, 1), 10);
        says("Terms 2", "a fraction in lowest terms");
        int[][] wants = {{1, 1}, {9, 10}, {4, 5}, {7, 10}, {3, 5}, {1, 2}, {2, 5}, {3, 10}, {1, 5}, {1, 10}, {0, 1}};
        for (int n = 0; n <= 10; n++) {
            x.odds(0, n);
            x.odds(1, 10);
            likelyIs(x, "with ODDS " + n, 0, wants[n][0], wants[n][1]);
        }
        SlowWells y = with(times(5, "well 9 0;") + "drink 3 h<24;carry 9");
        y.rule(RULE, 0);
        y.caravan(1, 0, 0);
        int[][] five = {{0, 1, 1}, {1, 59049, 100000}, {5, 1, 32}, {9, 1, 100000}, {10, 0, 1}};
        for (int[] f : five) {
            for (int well = 0; well < 5; well++) {
                y.odds(well, f[0]);
            }
            likelyIs(y, "with all ODDS " + f[0], 0, f[1], f[2]);
        }
        for (int dry = 0; dry < 5; dry++) {
            for (int well = 0; well < 5; well++) {
                y.odds(well, well == dry ? 10 : 0);
            }
            likelyIs(y, "with one DRY for sure", 0, 0, 1);
        }
        SlowWells z = with(times(5, "well 9 0;") + "carry 1");
        z.rule(RULE, 0);
        z.caravan(1, 0, 0);
        for (int well = 0; well < 5; well++) {
            z.odds(well, 5 + well);
        }
        likelyIs(z, "that needs no WELL", 0, 1, 1);
    }

    private static void dry() {
        says("Terms 2", "it holds and gives nothing then");
        // two HOURS' gifts would do, if an empty WELL gave any when it is DRY
        SlowWells x = withKinds(6, "well 9 9;way 1;way 1;drink 9 h<24;carry 9");
        x.caravan(1, 0, TOLD);
        x.row(TOLD, 2);
        x.odds(0, 10);
        likelyIs(x, "where all is DRY", 0, 0, 1);
        due("it goes as if nothing was DRY", x.would(0, OVER), 4);
        // it comes in the HOUR in which another drew, and needs 1
        SlowWells d = with("well 9 9;way 1;way 1;drink 1 h<24;carry 1");
        d.rule(RULE, 0);
        d.caravan(1, 0, 0);
        due("goes(0)", d.goes(0), 2);
        likelyIs(d, "in the HOUR of a drawing", 0, 1, 1);
        d.odds(0, 10);
        likelyIs(d, "in the HOUR of a drawing, DRY", 0, 0, 1);
        says("Terms 2", "whatever its RULE says by what there is");
        // at a full WELL WAIT goes on at once; at a DRY one it stands 6 HOURS, and standing takes all
        SlowWells y = withKinds(6, "well 9 0;way 1;way 1;drink 1 w=0;stand 1;carry 6");
        y.caravan(1, 0, WAIT);
        y.caravan(1, 0, RULE);
        y.caravan(1, 0, BEST);
        y.odds(0, 3);
        likelyIs(y, "of WAIT", 0, 7, 10);
        likelyIs(y, "of RULE", 1, 1, 1);
        likelyIs(y, "of BEST", 2, 1, 1);
        says("Terms 3", "THE WELLS: as they are now");
        SlowWells z = withKinds(6, "well 9 0;way 1;way 1;drink 9 h<24;carry 9");
        z.caravan(1, 0, RULE);
        z.odds(0, 1);
        likelyIs(z, "at a full WELL", 0, 9, 10);
        z.goes(0);
        likelyIs(z, "at an empty WELL", 0, 0, 1);
    }

    private static void bestKnows() {
        says("Terms 2", "(BEST knows which are DRY.)");
        // WELL 1 is emptied in HOUR 2 and gives 9 an HOUR; with nothing from WELL 0 one must stand there for 1
        SlowWells x = withKinds(6, "well 99 0;well 9 9;way 1;way 1;way 1;drink 3 w<2;drink 6 w=2;carry 9");
        x.caravan(9, 0, RULE);
        x.caravan(1, 0, BEST);
        x.caravan(1, 0, RULE);
        due("the first", x.goes(0), 3);
        due("WELL 1", x.holds(1, 2), 0);
        due("BEST", x.would(1, OVER), 3);
        x.odds(0, 5);
        likelyIs(x, "of BEST", 1, 1, 1);
        likelyIs(x, "of RULE", 2, 1, 2);
        x.odds(1, 10);
        likelyIs(x, "of BEST, WELL 1 DRY", 1, 1, 2);
        x.odds(0, 10);
        likelyIs(x, "of BEST, both DRY", 1, 0, 1);
    }

    private static void dig() {
        says("Promise 20", "NONE; BAD: f (0 .. 99), g (0 .. 99); STATE.");
        SlowWells x = new SlowWells();
        each("dig(caravan, 0, 0, 0)", caravan -> x.dig(caravan, 0, 0, 0), NONE, LOW, -1, 0, 5, HIGH);
        x.rule(RULE, 0);
        x.caravan(1, 0, 0);
        for (int round = 0; round < 2; round++) {
            each("dig(caravan, 0, 0, 0)", caravan -> x.dig(caravan, 0, 0, 0), NONE, LOW, -1, 1, 5, HIGH);
            each("dig(caravan, -1, 0, 0)", caravan -> x.dig(caravan, -1, 0, 0), NONE, LOW, -1, 1, 5, HIGH);
            each("dig(0, 0, 0, what)", what -> x.dig(0, 0, 0, what), NONE, outside(0, 1));
            each("dig(0, 100, -1, what)", what -> x.dig(0, 100, -1, what), NONE, outside(0, 1));
            each("dig(0, f, 0, 0)", f -> x.dig(0, f, 0, 0), BAD, outside(0, 99));
            each("dig(0, 0, g, 1)", g -> x.dig(0, 0, g, 1), BAD, outside(0, 99));
            int want = round == 0 ? STATE : 1;
            each("dig(0, f, 99, 0)", f -> x.dig(0, f, 99, 0), want, 0, 99);
            each("dig(0, 99, g, 0)", g -> x.dig(0, 99, g, 0), want, 0, 99);
            waste(x, "way 2");
        }
        says("Promise 20", "what 0 the place, 1 the HOUR then; -5");
        due("the place", x.dig(0, 1, 1, PLACE_OF), 1);
        due("the HOUR", x.dig(0, 1, 1, HOUR_OF), 2);
        waste(x, "way 2;drink 9 h<24;carry 1");
        due("no place", x.dig(0, 99, 99, PLACE_OF), NOT);
        due("no HOUR", x.dig(0, 99, 99, HOUR_OF), NOT);
    }

    private static void dug(String text, int place, int hour) {
        SlowWells x = with(text);
        x.rule(RULE, 0);
        x.caravan(1, 0, 0);
        due("the place with " + text, x.dig(0, 99, 0, PLACE_OF), place);
        due("the HOUR with " + text, x.dig(0, 99, 0, HOUR_OF), hour);
    }

    private static void digPlaces() {
        says("Terms 2", "so many HOURS (1 or more, less than it lasts) from its beginning");
        dug("way 0", NOT, NOT);
        dug("way 1", NOT, NOT);
        for (int lasts = 2; lasts <= 9; lasts++) {
            // with so much to drink on one part of the WAY, that lasts 1 HOUR at most
            dug("way " + lasts + ";drink 9 w=1;carry 9", lasts - 1, lasts);
            dug("way " + lasts + ";drink 9 w=0;carry 9", 1, lasts);
            dug("way " + lasts + ";drink 9 w=0;carry 8", NOT, NOT);
            dug("way " + lasts + ";drink 9 w=1;carry 8", NOT, NOT);
        }
        dug("carry 1", 1, 3);
        says("Terms 2", "100 times the WAY, and HOURS");
        for (int wells = 0; wells <= 5; wells++) {
            for (int way = 0; way <= wells; way++) {
                StringBuilder text = new StringBuilder("carry 1");
                for (int k = 0; k <= wells; k++) {
                    text.append(k < wells ? ";well 0 0" : "").append(k == way ? ";way 2" : ";way 1");
                }
                dug(text.toString(), wells < 5 ? 100 * way + 1 : NOT, wells < 5 ? wells + 2 : NOT);
            }
        }
        says("Terms 2", "5 WELLS: none.");
        dug(times(5, "well 9 9;") + "way 9", NOT, NOT);
        dug(times(6, "well 9 9;") + "way 9", NOT, NOT);
        dug(times(4, "well 9 9;") + "way 9", 1, 9 + 12);
        says("Terms 2", "comes OVER earliest (100 times the WAY, and HOURS); of several the first; -5: with none");
        dug("way 9", 1, 9);
        dug("well 0 0;way 9;way 9", 1, 18);
        dug("well 0 0;way 1;way 9", 101, 10);
        // who is on a WAY in HOUR 3 is LOST: behind 3 HOURS it stands for 1
        dug("way 5;drink 11 h=3", 3, 6);
        dug("way 5;drink 11 h=3|h=4", 3, 7);
        dug("way 5;drink 11 h=3;stand 10", 3, 6);
        dug("way 5;drink 11 h=3;stand 11", NOT, NOT);
    }

    private static void digNumbers() {
        says("Terms 2", "WELLS and WAYS behind it are one higher then");
        dug("well 0 0;way 3;way 2;drink 9 w=2;carry 9", 101, 5);
        dug("well 0 0;way 2;way 2;drink 9 w>0;carry 9", 101, 4);
        dug("well 0 0;way 2;way 2;drink 9 w>0;carry 8", NOT, NOT);
        dug("well 0 0;way 2;way 1;drink 9 w=2;carry 9", 1, 3);
        says("Terms 2", "a WELL more (FULL f, GIVES g) on a WAY");
        SlowWells x = with("way 2;drink 9 h<24;carry 10");
        x.rule(RULE, 0);
        x.caravan(1, 0, 0);
        x.caravan(9, 0, 0);
        due("just enough", x.dig(0, 8, 0, PLACE_OF), 1);
        due("one too little", x.dig(0, 7, 99, PLACE_OF), NOT);
        due("just enough for nine", x.dig(1, 72, 0, HOUR_OF), 2);
        due("one too little for nine", x.dig(1, 71, 0, HOUR_OF), NOT);
        says("Terms 2", "(All WELLS full at HOUR 0; 5 WELLS: none.)");
        waste(x, "well 9 0;way 1;way 2;drink 9 h<24;carry 9");
        x.odds(0, 10);
        due("the only WELL's place", x.dig(0, 9, 0, PLACE_OF), 101);
        x.goes(0);
        due("emptied", x.holds(0, 1), 0);
        due("full for DIG", x.dig(0, 9, 0, PLACE_OF), 101);
        due("the dug one full, too", x.dig(0, 9, 0, HOUR_OF), 3);
        due("of(0) as it was", x.of(0), 1);
    }

    private static void judge() {
        says("Promise 21", "NONE: tape, caravan; STATE; CAST: it is no row of ints.");
        SlowWells x = new SlowWells();
        each("judge(tape, 0, 0), no CARAVAN", tape -> x.judge(tape, 0, 0), NONE, 0, 5);
        x.rule(RULE, 0);
        x.caravan(1, 0, 0);
        for (int sort = 0; sort <= 4; sort++) {
            x.tape(sort, sort, 1);
        }
        for (int round = 0; round < 3; round++) {
            each("judge(tape, 0, 0)", tape -> x.judge(tape, 0, 0), NONE, outside(0, 5));
            each("judge(tape, 0, 5)", tape -> x.judge(tape, 0, 5), NONE, outside(0, 5));
            each("judge(0, 0, caravan)", caravan -> x.judge(0, 0, caravan), NONE, LOW, -1, 1, 5, HIGH);
            each("judge(tape, 0, 0), no ints", tape -> x.judge(tape, 0, 0), round == 0 ? STATE : CAST, 0, 1, 3, 4);
            each("judge(tape, -1, 0), no ints", tape -> x.judge(tape, -1, 0), round == 0 ? STATE : CAST, 0, 1, 3, 4);
            due("judge(2, 0, 0), ints", x.judge(2, 0, 0), round == 0 ? STATE : NOT);
            due("judge(5, 0, 0), nothing", x.judge(5, 0, 0), round == 0 ? STATE : round == 1 ? 101 : NOT);
            waste(x, round == 0 ? "well 1 1" : "way 1");
        }
    }

    /** A new object with CARAVAN 0 of one beast, and TAPE 0 of these ints. */
    private static SlowWells toJudge(String text, int... stands) {
        SlowWells x = with(text);
        x.rule(RULE, 0);
        x.caravan(1, 0, 0);
        x.tape(0, 2, stands.length);
        for (int i = 0; i < stands.length; i++) {
            x.item(0, i, stands[i]);
        }
        return x;
    }

    private static void judged() {
        says("Terms 4", "the first WELL (from 0) ahead of which (on the way to it, or standing at the one before) it is LOST");
        for (int wells = 1; wells <= 5; wells++) {
            for (int way = 0; way <= wells; way++) {
                SlowWells x = toJudge("carry 0;drink 1 w=" + way + times(wells, ";well 0 0"), 0, 0, 0, 0, 0);
                due("LOST on WAY " + way + " of " + wells, x.judge(0, 0, 0), way);
            }
            for (int well = 0; well < wells; well++) {
                int[] stands = new int[5];
                stands[well] = 1;
                SlowWells x = toJudge("carry 0;stand 1" + times(wells, ";well 0 0"), stands);
                due("LOST standing at " + well + " of " + wells, x.judge(0, 0, 0), well + 1);
            }
        }
        says("Terms 4", "how many WELLS there are: it is LOST on the last WAY; -5: it comes OVER");
        due("LOST on the last of 2", toJudge("well 0 0;drink 1 w=1;carry 2", 0).judge(0, 0, 0), 1);
        due("OVER", toJudge("well 0 0;drink 1 w=1;carry 3", 0).judge(0, 0, 0), NOT);
        says("Terms 4", "if there are no WELLS, no row is looked at");
        for (int lost = 0; lost <= 1; lost++) {
            SlowWells x = toJudge("way 1;drink " + lost + " h<24;carry 0", 9);
            int want = lost == 1 ? 0 : NOT;
            each("judge(0, i, 0), no WELLS", i -> x.judge(0, i, 0), want, LOW, -1, 0, 1, HIGH);
            due("nothing there", x.judge(1, 0, 0), want);
            x.tape(2, 2, 0);
            due("a row of none", x.judge(2, 0, 0), want);
        }
        says("Promise 21", "JUDGED for a CARAVAN from place i of a TAPE on.");
        SlowWells last = toJudge("well 0 0;stand 1;carry 1", new int[60]);
        last.item(0, 59, 2);
        due("place 58", last.judge(0, 58, 0), NOT);
        due("place 59, the last", last.judge(0, 59, 0), 1);
        due("place 60", last.judge(0, 60, 0), 101);
        says("Terms 4", "Stands told by a row of ints, from a place on, one for each WELL");
        SlowWells x = toJudge("well 0 0;well 0 0;way 1;way 1;way 1;stand 1;carry 7", 9, 1, 6, 1, 9);
        due("1 and 6", x.judge(0, 1, 0), NOT);
        due("6 and 1", x.judge(0, 2, 0), NOT);
        due("1 and 9", x.judge(0, 3, 0), 1);
        due("9", x.judge(0, 0, 0), 0);
        due("9 at the last place", x.judge(0, 4, 0), 0);
        x.item(0, 1, 2);
        due("2 and 6: LOST", x.judge(0, 1, 0), 2);
        says("Terms 3", "THE WELLS: as they are now");
        // drawn from in HOUR 10: one that comes in HOUR 1 stands till then
        SlowWells y = with("well 9 0;way 1;way 1;stand 1");
        y.rule(RULE, 0);
        y.caravan(1, 9, 0);
        y.caravan(1, 0, 0);
        y.tape(0, 2, 1);
        due("enough to stand", y.judge(0, 0, 1), NOT);
        y.goes(0);
        due("just enough to stand till 10", y.judge(0, 0, 1), NOT);
        y.item(0, 0, 1);
        due("an HOUR more", y.judge(0, 0, 1), NOT);
        y.item(0, 0, 2);
        due("two HOURS more", y.judge(0, 0, 1), 1);
    }

    private static void judgedNumbers() {
        says("Terms 4", "or whose number is none of 0 .. 6");
        for (int well = 0; well < 5; well++) {
            SlowWells x = toJudge("carry 0" + times(5, ";well 0 0"), 0, 6, 0, 6, 3);
            due("all good", x.judge(0, 0, 0), NOT);
            for (int bad : new int[] {LOW, -1, 7, HIGH}) {
                x.item(0, well, bad);
                due(bad + " at WELL " + well, x.judge(0, 0, 0), well);
            }
            for (int good : new int[] {0, 6}) {
                x.item(0, well, good);
                due(good + " at WELL " + well, x.judge(0, 0, 0), NOT);
            }
        }
        says("Terms 4", "the first WELL (from 0) ahead of which");
        due("LOST ahead of a bad number", toJudge("carry 0;drink 1 w=0;well 0 0;well 0 0", 9, 9).judge(0, 0, 0), 0);
        due("a bad number ahead of LOST", toJudge("carry 0;drink 1 w=2;well 0 0;well 0 0", 0, 9).judge(0, 0, 0), 1);
        due("two bad numbers", toJudge("carry 0;well 0 0;well 0 0", -1, 7).judge(0, 0, 0), 0);
        due("LOST standing ahead of a bad number", toJudge("stand 9;well 0 0;well 0 0", 6, 9).judge(0, 0, 0), 1);
        due("a bad number ahead of standing", toJudge("stand 9;well 0 0;well 0 0", 9, 6).judge(0, 0, 0), 0);
        // WELL 0 was drawn from in HOUR 10, and whoever comes ahead of that is LOST standing: behind WELL 0
        SlowWells y = toJudge("well 9 0;well 9 0;way 1;way 1;way 1;stand 9", 9);
        y.caravan(1, 9, 0);
        due("goes(1)", y.goes(1), 12);
        due("a bad number where it would be LOST standing", y.judge(0, 0, 0), 0);
        due("the end where it would be LOST standing", y.judge(1, 0, 0), 101);
        y.item(0, 0, 0);
        due("LOST standing", y.judge(0, 0, 0), 1);
        due("numbers beyond the WELLS", toJudge("well 0 0;well 0 0", 0, 0, 9).judge(0, 0, 0), NOT);
    }

    private static void judgedEnds() {
        says("Terms 4", "100 and how many WELLS were come to, if the row ends there");
        for (int wells = 1; wells <= 5; wells++) {
            String text = "carry 0" + times(wells, ";well 0 0");
            for (int told = 0; told <= wells; told++) {
                SlowWells x = toJudge(text, new int[told]);
                due(told + " told for " + wells, x.judge(0, 0, 0), told == wells ? NOT : 101 + told);
            }
            SlowWells y = toJudge(text, new int[60]);
            due("60 told for " + wells, y.judge(0, 0, 0), NOT);
            due("just the last ones", y.judge(0, 60 - wells, 0), NOT);
            due("one too few", y.judge(0, 61 - wells, 0), 100 + wells);
        }
        due("LOST ahead of the end", toJudge("carry 0;drink 1 w=1;well 0 0;well 0 0", 0).judge(0, 0, 0), 1);
        due("LOST standing ahead of the end", toJudge("carry 0;stand 1;well 0 0;well 0 0", 1).judge(0, 0, 0), 1);
        due("LOST on WAY 0 ahead of the end", toJudge("carry 0;drink 1 w=0;well 0 0").judge(0, 0, 0), 0);
        says("Terms 4", "(or the place is below 0, or the TAPE holds nothing)");
        SlowWells x = toJudge("well 0 0;well 0 0", 0, 0);
        each("judge(0, i, 0)", i -> x.judge(0, i, 0), 101, LOW, -2, -1, 2, 3, HIGH - 1, HIGH);
        due("nothing there", x.judge(1, 0, 0), 101);
        x.tape(0, -1, 0);
        due("nothing there any more", x.judge(0, 0, 0), 101);
        x.tape(0, 2, 0);
        due("a row of none", x.judge(0, 0, 0), 101);
        SlowWells y = toJudge("carry 0;drink 1 w=0;well 0 0", 0);
        each("LOST on WAY 0 ahead of that", i -> y.judge(0, i, 0), 0, LOW, -1, 1, HIGH);
        due("LOST on WAY 0 ahead of that", y.judge(1, 0, 0), 0);
    }
}
