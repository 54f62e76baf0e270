/**
 * Wells that fill slowly, one behind the other, and the caravans that go along them.
 * The document tells each call by its number of promise; every call answers with a number, none throws.
 */
public final class SlowWells {
    public static final int NONE = -1, BAD = -2, STATE = -3, FULL = -4;
    public static final long NO = Long.MIN_VALUE;

    private static final int NOT = -5, NOTHING = -11, CAST = -12, PLACE = -13, SIZE = -14;
    private static final int MOST_BYTES = 100, MOST_CLAUSES = 12, MOST_NESTED = 4;
    private static final int MOST_WASTES = 5, MOST_WELLS = 5, MOST_WAYS = 6, MOST_BEASTS = 9;
    private static final int MOST_RULES = 10, MOST_CARAVANS = 6, MOST_SEVERAL = 3;
    private static final int MOST_TAPES = 6, MOST_ITEMS = 60, MOST_STAND = 6;
    private static final int LATEST = 999, LATEST_START = 99, DAY = 24, NOON = 12;

    private static final int PLAIN = 0, WAIT = 1, NIGHT = 2, TOLD = 3, LONG = 4, BEST = 5, DARK = 6;
    /** The KIND above each KIND. */
    private static final int[] ABOVE = {-1, 0, 0, 0, 1, 1, 2};
    /** All orders of three places, the first as a row first. */
    private static final int[] ORDERS = {0, 1, 2, 0, 2, 1, 1, 0, 2, 1, 2, 0, 2, 0, 1, 2, 1, 0};

    private final Reader reader = new Reader();
    private int wasteCount;
    /** What the next text is read into; null: the latest one holds, and another is to be made. */
    private Waste unread = null;
    private final Rule[] rules = new Rule[MOST_RULES];
    private int ruleCount;
    private final Caravan[] caravans = new Caravan[MOST_CARAVANS];
    private int caravanCount;
    private final Scene now = new Scene();
    private final Scene kept = new Scene();
    private boolean imaged;
    private final Tape[] tapes = new Tape[MOST_TAPES];
    private final Acts acts = new Acts();
    private final Trip trip = new Trip();
    private final Planner planner = new Planner();
    private final Group group = new Group();
    /** What is tried out happens at these, so that what is asked changes nothing. */
    private final Wells trialWells = new Wells();
    private final Waste trialWaste = new Waste();
    private final Caravan trialCaravan = new Caravan();
    private final int[] trialRow = new int[MOST_WELLS];

    public SlowWells() {
        for (int i = 0; i < MOST_TAPES; i++) {
            tapes[i] = new Tape();
        }
    }

    // ---- wastes, wells

    public int feed(int bytes, int n) {
        if (!within(n, 0, 4)) {
            return BAD;
        }
        if (reader.length + n > MOST_BYTES) {
            return FULL;
        }
        for (int i = n - 1; i >= 0; i--) {
            reader.put((byte) (bytes >> (8 * i)));
        }
        return reader.length;
    }

    public int waste() {
        if (wasteCount >= MOST_WASTES) {
            return FULL;
        }
        if (unread == null) {
            unread = new Waste();
        }
        int fault = reader.readInto(unread);
        reader.length = 0;
        if (fault >= 0) {
            return -10 - fault;
        }
        now.waste = unread;
        now.wells.fill(unread);
        unread = null;
        wasteCount++;
        return wasteCount - 1;
    }

    public int of(int what) {
        if (!within(what, 0, 3) && !within(what, 10, 14) && !within(what, 20, 24) && !within(what, 30, 35)) {
            return NONE;
        }
        Waste waste = now.waste;
        if (waste == null) {
            return STATE;
        }
        int k = what % 10;
        switch (what / 10) {
            case 0:
                return waste.figure(k);
            case 1:
                return k < waste.wells ? waste.full[k] : NONE;
            case 2:
                return k < waste.wells ? waste.gives[k] : NONE;
            default:
                return k <= waste.wells ? waste.hours[k] : NONE;
        }
    }

    public int holds(int well, int hour) {
        if (!within(well, 0, MOST_WELLS - 1)) {
            return NONE;
        }
        if (!within(hour, 0, LATEST)) {
            return BAD;
        }
        if (now.waste == null) {
            return STATE;
        }
        return well < now.waste.wells ? now.wells.heldAt(well, hour) : NONE;
    }

    public int drinks(int way, int hour, int beasts) {
        if (!within(way, 0, MOST_WAYS - 1)) {
            return NONE;
        }
        if (!within(hour, 0, LATEST) || !within(beasts, 1, MOST_BEASTS)) {
            return BAD;
        }
        if (now.waste == null) {
            return STATE;
        }
        return way <= now.waste.wells ? now.waste.drunkIn(way, hour, beasts) : NONE;
    }

    public int odds(int well, int n) {
        if (!within(well, 0, MOST_WELLS - 1)) {
            return NONE;
        }
        if (!within(n, 0, 10)) {
            return BAD;
        }
        int before = now.odds[well];
        now.odds[well] = n;
        return before;
    }

    public int ever(int hour) {
        if (!within(hour, 0, LATEST)) {
            return BAD;
        }
        Waste waste = now.waste;
        if (waste == null) {
            return STATE;
        }
        int most = 0;
        for (int k = 0; k < waste.wells; k++) {
            most += waste.full[k] + hour * Math.min(waste.full[k], waste.gives[k]);
        }
        return most;
    }

    // ---- rules, caravans

    public int rule(int kind, int v) {
        if (!within(kind, PLAIN, DARK)) {
            return NONE;
        }
        if (!within(v, 0, MOST_STAND)) {
            return BAD;
        }
        if (ruleCount >= MOST_RULES) {
            return FULL;
        }
        rules[ruleCount] = new Rule(kind, ruleCount, v);
        ruleCount++;
        return ruleCount - 1;
    }

    public int row(int rule, int n) {
        Rule told = ruleAt(rule);
        if (told == null) {
            return NONE;
        }
        if (!within(n, 0, MOST_STAND)) {
            return BAD;
        }
        if (told.kind != TOLD) {
            return STATE;
        }
        if (told.rowLength >= MOST_WELLS) {
            return FULL;
        }
        told.row[told.rowLength] = n;
        told.rowLength++;
        return told.rowLength;
    }

    public int caravan(int beasts, int start, int rule) {
        Rule its = ruleAt(rule);
        if (its == null) {
            return NONE;
        }
        if (!within(beasts, 1, MOST_BEASTS) || !within(start, 0, LATEST_START)) {
            return BAD;
        }
        if (caravanCount >= MOST_CARAVANS) {
            return FULL;
        }
        Caravan next = new Caravan();
        next.become(beasts, start, its);
        caravans[caravanCount] = next;
        caravanCount++;
        return caravanCount - 1;
    }

    public int would(int caravan, int what) {
        Caravan one = caravanAt(caravan);
        if (one == null || !isAskedOfTrip(what)) {
            return NONE;
        }
        if (now.waste == null) {
            return STATE;
        }
        trialWells.become(now.wells);
        send(now.waste, trialWells, one);
        return tellTrip(what, one.beasts);
    }

    public int goes(int caravan) {
        Caravan one = caravanAt(caravan);
        if (one == null) {
            return NONE;
        }
        if (now.waste == null) {
            return STATE;
        }
        send(now.waste, now.wells, one);
        return trip.over;
    }

    public int hand(int n) {
        if (n == -1) {
            now.emptyHand();
            return 0;
        }
        if (!within(n, 0, MOST_STAND)) {
            return BAD;
        }
        if (now.hands >= MOST_WELLS) {
            return FULL;
        }
        now.hand[now.hands] = n;
        now.hands++;
        return now.hands;
    }

    public int gone(int caravan, int what) {
        Caravan one = caravanAt(caravan);
        if (one == null || !isAskedOfTrip(what)) {
            return NONE;
        }
        if (now.waste == null) {
            return STATE;
        }
        trialWells.become(now.wells);
        trip.make(now.waste, trialWells, one, now.hand);
        return tellTrip(what, one.beasts);
    }

    // ---- sizes, several

    public int size(int start, int rule, int what) {
        Rule its = ruleAt(rule);
        if (its == null || !within(what, 0, 1)) {
            return NONE;
        }
        if (!within(start, 0, LATEST_START)) {
            return BAD;
        }
        if (now.waste == null) {
            return STATE;
        }
        int most = -1, fewest = 0, edge = 0;
        for (int beasts = 1; beasts <= MOST_BEASTS; beasts++) {
            trialCaravan.become(beasts, start, its);
            trialWells.become(now.wells);
            send(now.waste, trialWells, trialCaravan);
            if (trip.over == NOT && edge == 0) {
                edge = beasts;
            }
            if (trip.over != NOT && worthOf(beasts) > most) {
                most = worthOf(beasts);
                fewest = beasts;
            }
        }
        return what == 0 ? fewest : edge;
    }

    public int several(int caravan) {
        if (caravan == -1) {
            now.severals = 0;
            return 0;
        }
        if (caravanAt(caravan) == null) {
            return NONE;
        }
        if (now.severals >= MOST_SEVERAL) {
            return FULL;
        }
        now.several[now.severals] = caravan;
        now.severals++;
        return now.severals;
    }

    public int all(int what) {
        if (!within(what, 0, 5) && !within(what, 10, 9 + now.severals)) {
            return NONE;
        }
        if (now.waste == null) {
            return STATE;
        }
        if (what < 2 || what > 5) {
            sendSeveral(0);
            return group.tell(what);
        }
        group.forgetOrder();
        for (int order = 0; order * MOST_SEVERAL < ORDERS.length; order++) {
            if (isOrderOf(order, now.severals)) {
                sendSeveral(order);
                group.compare(order);
            }
        }
        return what == 5 ? group.mostWorth : group.placeAt(what - 2, now.severals);
    }

    public long likely(int caravan, int part) {
        Caravan one = caravanAt(caravan);
        if (one == null || !within(part, 0, 1) || now.waste == null) {
            return NO;
        }
        int over = 0, whole = 1;
        for (int k = 0; k < now.waste.wells; k++) {
            whole *= 10;
        }
        for (int dry = 0; dry < 1 << now.waste.wells; dry++) {
            int weight = weightOf(dry);
            if (weight > 0 && comesOverWithDry(dry, one)) {
                over += weight;
            }
        }
        int shared = commonDivisor(over, whole);
        if (shared < 1) {
            return NO;
        }
        return part == 0 ? over / shared : whole / shared;
    }

    public int dig(int caravan, int f, int g, int what) {
        Caravan one = caravanAt(caravan);
        if (one == null || !within(what, 0, 1)) {
            return NONE;
        }
        if (!within(f, 0, 99) || !within(g, 0, 99)) {
            return BAD;
        }
        Waste waste = now.waste;
        if (waste == null) {
            return STATE;
        }
        int earliest = NOT, place = NOT;
        for (int way = 0; way <= waste.wells && waste.wells < MOST_WELLS; way++) {
            for (int hours = 1; hours < waste.hours[way]; hours++) {
                trialWaste.becomeDug(waste, way, hours, f, g);
                trialWells.fill(trialWaste);
                int over = planner.earliest(trialWaste, trialWells, one);
                if (over != NOT && (earliest == NOT || over < earliest)) {
                    earliest = over;
                    place = 100 * way + hours;
                }
            }
        }
        return what == 0 ? place : earliest;
    }

    // ---- judging, the image, acts, tapes

    public int judge(int tape, int i, int caravan) {
        Tape its = tapeAt(tape);
        Caravan one = caravanAt(caravan);
        if (its == null || one == null) {
            return NONE;
        }
        Waste waste = now.waste;
        if (waste == null) {
            return STATE;
        }
        if (its.sort != Tape.EMPTY && its.sort != Tape.INTS) {
            return CAST;
        }
        int good = copyStands(its, i, waste.wells);
        trialWells.become(now.wells);
        trip.make(waste, trialWells, one, trialRow);
        // no stand told behind the first bad one has any say in what comes ahead of it
        if (good >= waste.wells || trip.lost != NOT && trip.lost <= good) {
            return trip.lost;
        }
        return its.isPlace(i) && its.isPlace(i + good) ? good : 100 + good + 1;
    }

    public int image() {
        kept.become(now);
        imaged = true;
        return now.severals;
    }

    public int undo() {
        if (!imaged) {
            return STATE;
        }
        now.become(kept);
        return now.severals;
    }

    public int act(int rule, int act, int x) {
        acts.ran = 0;
        Rule its = ruleAt(rule);
        if (its == null || !within(act, Acts.STANDS, Acts.TELLS)) {
            return 0;
        }
        return Acts.perform(acts, its, its.kind, act, x, 0);
    }

    public int trace(int i) {
        return i >= 0 && i < acts.ran && i < Acts.KEPT ? acts.bodies[i] : NONE;
    }

    public int taken(int rule, int k) {
        if (!within(k, PLAIN, DARK)) {
            return BAD;
        }
        Rule its = ruleAt(rule);
        if (its == null) {
            return NOTHING;
        }
        return isUnder(its.kind, k) ? its.kind : CAST;
    }

    public int count(int what) {
        switch (what) {
            case 0:
                return wasteCount;
            case 1:
                return ruleCount;
            case 2:
                return caravanCount;
            case 3:
                return now.severals;
            case 4:
                return now.hands;
            case 5:
                return reader.length;
            case 6:
                return acts.ran;
            default:
                return BAD;
        }
    }

    public int tape(int tape, int sort, int n) {
        Tape its = tapeAt(tape);
        if (its == null) {
            return NONE;
        }
        if (!within(sort, Tape.EMPTY, Tape.BOOLEANS) || sort != Tape.EMPTY && n > MOST_ITEMS) {
            return BAD;
        }
        if (sort != Tape.EMPTY && n < 0) {
            return SIZE;
        }
        its.become(sort, sort == Tape.EMPTY ? 0 : n);
        return 1;
    }

    public int item(int tape, int i, long v) {
        Tape its = tapeAt(tape);
        if (its == null) {
            return NONE;
        }
        if (its.sort == Tape.EMPTY) {
            return NOTHING;
        }
        if (!its.isPlace(i)) {
            return PLACE;
        }
        its.items[i] = its.narrowed(v);
        return 1;
    }

    public long read(int tape, int i) {
        Tape its = tapeAt(tape);
        return its != null && its.isPlace(i) ? its.items[i] : NO;
    }

    public int shift(int tape, int i, int other, int j, int n) {
        Tape from = tapeAt(tape), to = tapeAt(other);
        if (from == null || to == null) {
            return NONE;
        }
        if (from.sort == Tape.EMPTY || to.sort == Tape.EMPTY) {
            return NOTHING;
        }
        if (from.sort != to.sort) {
            return CAST;
        }
        if (!from.isStretch(i, n) || !to.isStretch(j, n)) {
            return PLACE;
        }
        System.arraycopy(from.items, i, to.items, j, n);
        return n;
    }

    // ---- what the calls share

    private static boolean within(int n, int least, int most) {
        return n >= least && n <= most;
    }

    private Rule ruleAt(int number) {
        return number >= 0 && number < ruleCount ? rules[number] : null;
    }

    private Caravan caravanAt(int number) {
        return number >= 0 && number < caravanCount ? caravans[number] : null;
    }

    private Tape tapeAt(int number) {
        return number >= 0 && number < MOST_TAPES ? tapes[number] : null;
    }

    private static boolean isUnder(int kind, int other) {
        int k = kind;
        for (int i = 0; i < ABOVE.length && k >= PLAIN && k < ABOVE.length; i++) {
            if (k == other) {
                return true;
            }
            k = ABOVE[k];
        }
        return false;
    }

    private static boolean isAskedOfTrip(int what) {
        return within(what, 0, 2) || within(what, 10, 9 + MOST_WELLS) || within(what, 20, 19 + MOST_WELLS);
    }

    private int tellTrip(int what, int beasts) {
        switch (what) {
            case 0:
                return trip.over;
            case 1:
                return trip.lost;
            case 2:
                return worthOf(beasts);
            default:
                int k = what % 10;
                if (k >= now.waste.wells) {
                    return NONE;
                }
                return what < 20 ? trip.stood[k] : trip.came[k];
        }
    }

    private int worthOf(int beasts) {
        return trip.over == NOT ? 0 : now.waste.load * beasts;
    }

    /** A caravan goes by its rule and draws from these wells. */
    private void send(Waste waste, Wells wells, Caravan one) {
        int[] stands = null;
        if (one.rule.kind == TOLD) {
            stands = one.rule.row;
        } else if (one.rule.kind == BEST) {
            planner.earliest(waste, wells, one);
            planner.plan();
            stands = planner.row;
        }
        trip.make(waste, wells, one, stands);
    }

    /** SEVERAL go in one of the ORDERS, one wholly behind the other. */
    private void sendSeveral(int order) {
        trialWells.become(now.wells);
        group.begin();
        for (int i = 0; i < now.severals; i++) {
            int place = ORDERS[order * MOST_SEVERAL + i];
            Caravan one = caravanAt(now.several[place]);
            if (one != null) {
                send(now.waste, trialWells, one);
                group.note(place, trip.over, worthOf(one.beasts));
            }
        }
    }

    /** Those orders do for fewer than three that leave the places behind them where they are. */
    private static boolean isOrderOf(int order, int n) {
        for (int i = n; i < MOST_SEVERAL; i++) {
            if (ORDERS[order * MOST_SEVERAL + i] != i) {
                return false;
            }
        }
        return true;
    }

    /** In how many of 10 to the number of wells cases just these wells (a bit each) are dry. */
    private int weightOf(int dry) {
        int weight = 1;
        for (int k = 0; k < now.waste.wells; k++) {
            boolean isDry = (dry >> k & 1) == 1;
            weight *= isDry ? now.odds[k] : 10 - now.odds[k];
        }
        return weight;
    }

    private boolean comesOverWithDry(int dry, Caravan one) {
        trialWells.become(now.wells);
        for (int k = 0; k < now.waste.wells; k++) {
            if ((dry >> k & 1) == 1) {
                trialWells.dryUp(k);
            }
        }
        send(now.waste, trialWells, one);
        return trip.over != NOT;
    }

    private static int commonDivisor(int a, int b) {
        int larger = a, smaller = b;
        for (int i = 0; i < 100 && smaller != 0; i++) {
            int rest = larger % smaller;
            larger = smaller;
            smaller = rest;
        }
        return larger;
    }

    /** The stands that a tape tells from a place on, up to the first that is none: how many. */
    private int copyStands(Tape tape, int from, int wells) {
        for (int k = 0; k < MOST_WELLS; k++) {
            trialRow[k] = 0;
        }
        if (!tape.isPlace(from)) {
            return 0;
        }
        int good = 0;
        for (int k = 0; k < wells && good == k; k++) {
            if (tape.isPlace(from + k) && tape.items[from + k] >= 0 && tape.items[from + k] <= MOST_STAND) {
                trialRow[k] = (int) tape.items[from + k];
                good++;
            }
        }
        return good;
    }

    /** What a text told: the wells and the ways as they are at first, and what a beast drinks. */
    private static final class Waste {
        /** A way that begins in the last hour of a day lasts nine hours at most. */
        private static final int SUMS = 33;

        private int wells, ways, carry, load, stand;
        private final int[] full = new int[MOST_WELLS];
        private final int[] gives = new int[MOST_WELLS];
        private final int[] hours = new int[MOST_WAYS];
        /** For each way and number of beasts: what one has drunk ahead of each hour since the day began. */
        private int[] drunk = null;

        private void clear() {
            wells = 0;
            ways = 0;
            carry = 10;
            load = 1;
            stand = 0;
            for (int k = 0; k < MOST_WELLS; k++) {
                full[k] = 0;
                gives[k] = 0;
            }
            for (int k = 0; k < MOST_WAYS; k++) {
                hours[k] = 3;
            }
        }

        private void addWell(int f, int g) {
            if (wells < MOST_WELLS) {
                full[wells] = f;
                gives[wells] = g;
                wells++;
            }
        }

        private void addWay(int h) {
            if (ways < MOST_WAYS) {
                hours[ways] = Math.max(h, 1);
                ways++;
            }
        }

        private int figure(int which) {
            switch (which) {
                case 0:
                    return wells;
                case 1:
                    return carry;
                case 2:
                    return load;
                default:
                    return stand;
            }
        }

        private void makeSums() {
            if (drunk == null) {
                drunk = new int[MOST_WAYS * MOST_BEASTS * SUMS];
            }
        }

        private static int sumsOf(int way, int beasts) {
            return (way * MOST_BEASTS + beasts - 1) * SUMS;
        }

        private int drunkIn(int way, int hour, int beasts) {
            int at = sumsOf(way, beasts) + hour % DAY;
            return drunk != null && at >= 0 && at + 1 < drunk.length ? drunk[at + 1] - drunk[at] : 0;
        }

        /** What all beasts together drink on a whole way. */
        private int drunkAlong(int way, int hour, int beasts) {
            int at = sumsOf(way, beasts) + hour % DAY, end = at + hours[way];
            return drunk != null && at >= 0 && end < drunk.length ? (drunk[end] - drunk[at]) * beasts : 0;
        }

        /** This becomes another waste, with fewer than five wells, and a well more on a way of it. */
        private void becomeDug(Waste other, int way, int ahead, int f, int g) {
            clear();
            for (int k = 0; k < other.wells && wells < MOST_WELLS; k++) {
                if (k == way) {
                    addWell(f, g);
                }
                addWell(other.full[k], other.gives[k]);
            }
            if (way == other.wells) {
                addWell(f, g);
            }
            for (int k = 0; k <= other.wells; k++) {
                if (k == way) {
                    addWay(ahead);
                    addWay(other.hours[k] - ahead);
                } else {
                    addWay(other.hours[k]);
                }
            }
            carry = other.carry;
            load = other.load;
            stand = other.stand;
            drunk = other.drunk;
        }
    }

    /** Reads a waste from the text; what drink tells is read again for each way and number of beasts. */
    private static final class Reader {
        private static final int ALL_HOURS = (1 << DAY) - 1;

        private final byte[] text = new byte[MOST_BYTES];
        private int length;
        private int at;
        private boolean sound;
        private int drinkCount;
        private final int[] drinkNumbers = new int[MOST_CLAUSES];
        private final int[] drinkPlaces = new int[MOST_CLAUSES];
        private final int[] drinkHours = new int[MOST_CLAUSES];
        private int beasts = 1;
        private int well;

        private void put(byte b) {
            if (length < MOST_BYTES) {
                text[length] = b;
                length++;
            }
        }

        /** The place of the fault, -1 if there is none. */
        private int readInto(Waste waste) {
            waste.clear();
            at = 0;
            sound = true;
            drinkCount = 0;
            readClause(waste);
            for (int i = 1; i < MOST_CLAUSES && next() == ';'; i++) {
                at++;
                readClause(waste);
            }
            if (!sound || at < length) {
                return at;
            }
            waste.makeSums();
            for (int way = 0; way < MOST_WAYS; way++) {
                for (int b = 1; b <= MOST_BEASTS; b++) {
                    sumUp(waste, way, b);
                }
            }
            return -1;
        }

        /** The byte that is to be read, -1 behind the end and behind a fault. */
        private int next() {
            return sound && at < length ? text[at] : -1;
        }

        private void take(char c) {
            if (next() == c) {
                at++;
            } else {
                sound = false;
            }
        }

        private void takeWord(String word) {
            for (int i = 0; i < word.length(); i++) {
                take(word.charAt(i));
            }
            take(' ');
        }

        private void readClause(Waste waste) {
            switch (next()) {
                case 'w':
                    readWellOrWay(waste);
                    break;
                case 'd':
                    takeWord("drink");
                    int n = readNumber(2);
                    take(' ');
                    int place = at;
                    readEither(0);
                    keepDrink(n, place);
                    break;
                case 'c':
                    takeWord("carry");
                    waste.carry = readNumber(2);
                    break;
                case 'l':
                    takeWord("load");
                    waste.load = readNumber(2);
                    break;
                case 's':
                    takeWord("stand");
                    waste.stand = readNumber(2);
                    break;
                default:
                    sound = false;
            }
        }

        private void readWellOrWay(Waste waste) {
            if (at + 1 < length && text[at + 1] == 'a') {
                takeWord("way");
                waste.addWay(readNumber(1));
                return;
            }
            takeWord("well");
            int f = readNumber(2);
            take(' ');
            waste.addWell(f, readNumber(2));
        }

        private void keepDrink(int n, int place) {
            if (drinkCount < MOST_CLAUSES) {
                drinkNumbers[drinkCount] = n;
                drinkPlaces[drinkCount] = place;
                drinkCount++;
            }
        }

        private int readNumber(int digits) {
            int n = 0;
            for (int i = 0; i < digits; i++) {
                int c = next();
                if (c >= '0' && c <= '9') {
                    n = n * 10 + c - '0';
                    at++;
                } else if (i == 0) {
                    sound = false;
                } else {
                    return n;
                }
            }
            return n;
        }

        /** E: in which hours of the day it holds, a bit each. */
        private int readEither(int depth) {
            int hours = 0, both = readPart(depth);
            for (int i = 0; i < MOST_BYTES && (next() == '|' || next() == '&'); i++) {
                boolean isOr = next() == '|';
                at++;
                int part = readPart(depth);
                hours |= isOr ? both : 0;
                both = isOr ? part : both & part;
            }
            return hours | both;
        }

        private int readPart(int depth) {
            int nested = depth, turned = 0;
            for (; nested < MOST_NESTED && next() == '!'; nested++) {
                at++;
                turned = ALL_HOURS & ~turned;
            }
            if (nested < MOST_NESTED && next() == '(') {
                at++;
                int hours = readEither(nested + 1);
                take(')');
                return turned ^ hours;
            }
            return turned ^ readTest();
        }

        private int readTest() {
            int asked = next();
            if (asked != 'h' && asked != 'b' && asked != 'w') {
                sound = false;
                return 0;
            }
            at++;
            int sign = next();
            if (sign != '<' && sign != '=' && sign != '>') {
                sound = false;
                return 0;
            }
            at++;
            int n = readNumber(2);
            if (asked == 'h') {
                return hoursThat(sign, n);
            }
            return matches(asked == 'b' ? beasts : well, sign, n) ? ALL_HOURS : 0;
        }

        private static int hoursThat(int sign, int n) {
            if (sign == '<') {
                return hoursBelow(n);
            }
            return sign == '>' ? ALL_HOURS & ~hoursBelow(n + 1) : hoursBelow(n + 1) & ~hoursBelow(n);
        }

        private static int hoursBelow(int n) {
            return n >= DAY ? ALL_HOURS : (1 << n) - 1;
        }

        private static boolean matches(int value, int sign, int n) {
            if (sign == '<') {
                return value < n;
            }
            return sign == '>' ? value > n : value == n;
        }

        /** Tells a waste what one of so many beasts has drunk on a way ahead of each hour. */
        private void sumUp(Waste waste, int way, int beastsThere) {
            beasts = beastsThere;
            well = way;
            for (int d = 0; d < drinkCount; d++) {
                at = drinkPlaces[d];
                drinkHours[d] = readEither(0);
            }
            int first = Waste.sumsOf(way, beastsThere);
            waste.drunk[first] = 0;
            for (int hour = 0; hour + 1 < Waste.SUMS; hour++) {
                int sum = waste.drunk[first + hour];
                for (int d = 0; d < drinkCount; d++) {
                    if ((drinkHours[d] >> hour % DAY & 1) == 1) {
                        sum += drinkNumbers[d];
                    }
                }
                waste.drunk[first + hour + 1] = sum;
            }
        }
    }

    /** The wells as they are: what each held behind the last drawing, and the hour of that. */
    private static final class Wells {
        private final int[] full = new int[MOST_WELLS];
        private final int[] gives = new int[MOST_WELLS];
        private final int[] level = new int[MOST_WELLS];
        private final int[] last = new int[MOST_WELLS];

        private void fill(Waste waste) {
            for (int k = 0; k < MOST_WELLS; k++) {
                full[k] = waste.full[k];
                gives[k] = waste.gives[k];
                level[k] = waste.full[k];
                last[k] = 0;
            }
        }

        private void become(Wells other) {
            for (int k = 0; k < MOST_WELLS; k++) {
                full[k] = other.full[k];
                gives[k] = other.gives[k];
                level[k] = other.level[k];
                last[k] = other.last[k];
            }
        }

        private void dryUp(int k) {
            full[k] = 0;
            gives[k] = 0;
            level[k] = 0;
        }

        private int heldAt(int k, int hour) {
            if (hour <= last[k]) {
                return level[k];
            }
            int filled = level[k] + gives[k] * (hour - last[k]);
            return filled < full[k] ? filled : full[k];
        }

        /** Somebody draws as much as there is of what is wanted: how much. */
        private int draw(int k, int hour, int wanted) {
            int held = heldAt(k, hour);
            int drawn = Math.min(held, wanted);
            level[k] = held - drawn;
            last[k] = hour;
            return drawn;
        }
    }

    /** All that an image holds. */
    private static final class Scene {
        /** null: none holds. */
        private Waste waste = null;
        private final Wells wells = new Wells();
        private final int[] odds = new int[MOST_WELLS];
        private final int[] several = new int[MOST_SEVERAL];
        private int severals;
        private final int[] hand = new int[MOST_WELLS];
        private int hands;

        private void become(Scene other) {
            waste = other.waste;
            wells.become(other.wells);
            severals = other.severals;
            hands = other.hands;
            for (int k = 0; k < MOST_WELLS; k++) {
                odds[k] = other.odds[k];
                hand[k] = other.hand[k];
            }
            for (int i = 0; i < MOST_SEVERAL; i++) {
                several[i] = other.several[i];
            }
        }

        /** The row is 0 beyond its end, so an empty one is 0 everywhere. */
        private void emptyHand() {
            hands = 0;
            for (int k = 0; k < MOST_WELLS; k++) {
                hand[k] = 0;
            }
        }
    }

    /** A rule of a kind: how long to stand. Those of KINDS TOLD and BEST have a row that tells it. */
    private static final class Rule {
        private final int kind, number, v;
        private final int[] row = new int[MOST_WELLS];
        private int rowLength;

        private Rule(int kind, int number, int v) {
            this.kind = kind;
            this.number = number;
            this.v = v;
        }

        /** How long to stand at a well from an hour on, with so much water of as much as can be carried. */
        private int standAt(Wells wells, int k, int hour, int water, int most) {
            switch (kind) {
                case WAIT:
                    return waitFor(wells, k, hour, most - water);
                case LONG:
                    return Math.min(waitFor(wells, k, hour, most - water) + 1, MOST_STAND);
                case NIGHT:
                    return tillNoon(hour);
                case DARK:
                    return 2 * water < most ? 0 : tillNoon(hour);
                default:
                    return 0;
            }
        }

        private int waitFor(Wells wells, int k, int hour, int wanted) {
            for (int stand = 0; stand < v; stand++) {
                if (wells.heldAt(k, hour + stand) >= wanted) {
                    return stand;
                }
            }
            return v;
        }

        private int tillNoon(int hour) {
            int inDay = hour % DAY;
            return inDay >= NOON ? 0 : Math.min(NOON - inDay, v);
        }
    }

    private static final class Caravan {
        private int beasts, start;
        private Rule rule = null;

        private void become(int itsBeasts, int itsStart, Rule itsRule) {
            beasts = itsBeasts;
            start = itsStart;
            rule = itsRule;
        }
    }

    /** One caravan's way through the waste, and what came of it. */
    private static final class Trip {
        /** The hour at which it came over, and the way on which it was lost: NOT, if it was not so. */
        private int over, lost;
        private final int[] stood = new int[MOST_WELLS];
        private final int[] came = new int[MOST_WELLS];
        private int hour, water, most, thirst;

        /** It stands as the row tells; if there is none, as its rule says. */
        private void make(Waste waste, Wells wells, Caravan one, int[] stands) {
            begin(waste, one);
            for (int k = 0; k < waste.wells && lost == NOT; k++) {
                if (!walk(waste, k, one.beasts)) {
                    lost = k;
                } else if (!visit(wells, k, one.rule, stands)) {
                    lost = k + 1;
                }
            }
            if (lost == NOT) {
                if (walk(waste, waste.wells, one.beasts)) {
                    over = hour;
                } else {
                    lost = waste.wells;
                }
            }
        }

        private void begin(Waste waste, Caravan one) {
            over = NOT;
            lost = NOT;
            for (int k = 0; k < MOST_WELLS; k++) {
                stood[k] = NOT;
                came[k] = NOT;
            }
            hour = one.start;
            most = waste.carry * one.beasts;
            thirst = waste.stand * one.beasts;
            water = most;
        }

        /** No water comes on the way, so it is lost on it just if it has not enough for the whole. */
        private boolean walk(Waste waste, int way, int beasts) {
            int drunk = waste.drunkAlong(way, hour, beasts);
            if (drunk > water) {
                return false;
            }
            water -= drunk;
            hour += waste.hours[way];
            return true;
        }

        private boolean visit(Wells wells, int k, Rule rule, int[] stands) {
            came[k] = water;
            if (!linger(wells.last[k] - hour)) {
                return false;
            }
            stood[k] = stands == null ? rule.standAt(wells, k, hour, water, most) : stands[k];
            if (!linger(stood[k])) {
                return false;
            }
            water += wells.draw(k, hour, most - water);
            return true;
        }

        private boolean linger(int hours) {
            if (hours <= 0) {
                return true;
            }
            if (hours * thirst > water) {
                return false;
            }
            water -= hours * thirst;
            hour += hours;
            return true;
        }
    }

    /**
     * Finds the best row of stands. Behind each well only the hour and the water count, and more water is
     * never worse: so for each hour of coming the most water that one can have there tells which hours OVER
     * can be, and the least that one must have tells which stands lead to the earliest.
     */
    private static final class Planner {
        /** So many hours of coming to a place behind five wells, seven stands at each. */
        private static final int HOURS = MOST_WELLS * MOST_STAND + 1;
        private static final int NEVER = 1000000;

        private final int[] row = new int[MOST_WELLS];
        /** The earliest hour of coming to each well, and to the end. */
        private final int[] first = new int[MOST_WAYS];
        /** For each well (and the end) and hour of coming from the first on: -1 for an hour that cannot be. */
        private final int[] most = new int[MOST_WAYS * HOURS];
        private final int[] least = new int[MOST_WAYS * HOURS];
        private Waste waste = null;
        private Wells wells = null;
        private int beasts, carried, thirst, over;

        /** The earliest hour OVER, NOT if there is none. */
        private int earliest(Waste itsWaste, Wells itsWells, Caravan one) {
            waste = itsWaste;
            wells = itsWells;
            beasts = one.beasts;
            carried = waste.carry * beasts;
            thirst = waste.stand * beasts;
            begin(one.start);
            for (int k = 0; k < waste.wells; k++) {
                for (int i = 0; i <= k * MOST_STAND; i++) {
                    spread(k, i);
                }
            }
            over = NOT;
            for (int i = HOURS - 1; i >= 0; i--) {
                if (most[waste.wells * HOURS + i] >= 0) {
                    over = first[waste.wells] + i;
                }
            }
            return over;
        }

        /** The first row with the hour OVER that was found becomes the row; all 0 if there was none. */
        private void plan() {
            for (int k = 0; k < MOST_WELLS; k++) {
                row[k] = 0;
            }
            if (waste == null || wells == null || over == NOT) {
                return;
            }
            for (int i = 0; i < HOURS; i++) {
                least[waste.wells * HOURS + i] = first[waste.wells] + i == over ? 0 : NEVER;
            }
            for (int k = waste.wells - 1; k > 0; k--) {
                for (int i = 0; i <= k * MOST_STAND; i++) {
                    least[k * HOURS + i] = leastAt(k, i);
                }
            }
            int i = 0, water = most[0];
            for (int k = 0; k < waste.wells; k++) {
                while (row[k] < MOST_STAND && !leadsOn(k, i, row[k], water)) {
                    row[k]++;
                }
                int leaving = leaving(k, i, row[k]);
                water = brought(k, i, leaving, water);
                i = nextOf(k, leaving);
            }
        }

        private void begin(int start) {
            for (int i = 0; i < most.length; i++) {
                most[i] = -1;
            }
            first[0] = start + waste.hours[0];
            for (int k = 0; k < waste.wells; k++) {
                first[k + 1] = Math.max(first[k], wells.last[k]) + waste.hours[k + 1];
            }
            most[0] = Math.max(-1, carried - waste.drunkAlong(0, start, beasts));
        }

        /** The hour of going on from a well to which one comes i hours behind the first one can. */
        private int leaving(int k, int i, int stand) {
            return Math.max(first[k] + i, wells.last[k]) + stand;
        }

        /** Which hour of coming to the next place that is, counted from its first. */
        private int nextOf(int k, int leaving) {
            return leaving + waste.hours[k + 1] - first[k + 1];
        }

        /** How much water one brings to the next place; below 0 if one is lost ahead of it. */
        private int brought(int k, int i, int leaving, int water) {
            int rest = water - (leaving - first[k] - i) * thirst;
            if (rest < 0) {
                return -1;
            }
            int filled = Math.min(carried, rest + wells.heldAt(k, leaving));
            return filled - waste.drunkAlong(k + 1, leaving, beasts);
        }

        private void spread(int k, int i) {
            int water = most[k * HOURS + i];
            for (int stand = 0; stand <= MOST_STAND && water >= 0; stand++) {
                int leaving = leaving(k, i, stand);
                int next = (k + 1) * HOURS + nextOf(k, leaving);
                if (next >= 0 && next < most.length) {
                    most[next] = Math.max(most[next], brought(k, i, leaving, water));
                }
            }
        }

        private int leastAt(int k, int i) {
            int fewest = NEVER;
            for (int stand = 0; stand <= MOST_STAND; stand++) {
                int leaving = leaving(k, i, stand);
                int due = leastNext(k, leaving) + waste.drunkAlong(k + 1, leaving, beasts);
                if (due <= carried) {
                    int stood = (leaving - first[k] - i) * thirst;
                    fewest = Math.min(fewest, stood + Math.max(0, due - wells.heldAt(k, leaving)));
                }
            }
            return fewest;
        }

        private int leastNext(int k, int leaving) {
            int next = (k + 1) * HOURS + nextOf(k, leaving);
            return next >= 0 && next < least.length ? least[next] : NEVER;
        }

        private boolean leadsOn(int k, int i, int stand, int water) {
            int leaving = leaving(k, i, stand);
            return brought(k, i, leaving, water) >= leastNext(k, leaving);
        }
    }

    /** What came of several caravans in one order, and the best order so far. */
    private static final class Group {
        private final int[] overs = new int[MOST_SEVERAL];
        private int worth, latest;
        private int bestOrder, mostWorth, bestLatest;

        private void begin() {
            worth = 0;
            latest = NOT;
            for (int i = 0; i < MOST_SEVERAL; i++) {
                overs[i] = NOT;
            }
        }

        private void note(int place, int over, int itsWorth) {
            overs[place] = over;
            worth += itsWorth;
            latest = Math.max(latest, over);
        }

        private int tell(int what) {
            if (what < 2) {
                return what == 0 ? worth : latest;
            }
            return what >= 10 && what < 10 + MOST_SEVERAL ? overs[what - 10] : NONE;
        }

        private void forgetOrder() {
            bestOrder = -1;
        }

        private void compare(int order) {
            boolean isEarlier = latest != NOT && (bestLatest == NOT || latest < bestLatest);
            if (bestOrder == -1 || worth > mostWorth || worth == mostWorth && isEarlier) {
                bestOrder = order;
                mostWorth = worth;
                bestLatest = latest;
            }
        }

        private int placeAt(int i, int n) {
            int at = bestOrder * MOST_SEVERAL + i;
            return i >= 0 && i < n && at >= 0 && at < ORDERS.length ? ORDERS[at] : NOT;
        }
    }

    /** Runs the bodies of the kinds, and keeps which ran. */
    private static final class Acts {
        private static final int STANDS = 0, DRAWS = 1, TELLS = 2, KEPT = 20, DEEPEST = 20;
        /** For each kind the numbers of its bodies of stands, draws and tells; 0: it has none. */
        private static final int[] BODIES = {
            10, 11, 12,
            0, 20, 0,
            30, 0, 0,
            0, 0, 40,
            50, 51, 0,
            0, 0, 60,
            71, 70, 0};

        private final int[] bodies = new int[KEPT];
        private int ran;

        /** Runs the body of an act that a kind has, or else the next kind above it that has one. */
        private static int perform(Acts acts, Rule rule, int kind, int act, int x, int depth) {
            if (depth > DEEPEST) {
                return 0;
            }
            int body = bodyOf(kind, act);
            acts.note(body);
            int next = depth + 1;
            switch (body) {
                case 10:
                    return x + rule.number;
                case 11:
                    return perform(acts, rule, rule.kind, STANDS, x, next) - rule.v;
                case 12:
                    return perform(acts, rule, rule.kind, DRAWS, x, next) * 2;
                case 20:
                    return perform(acts, rule, PLAIN, DRAWS, x, next) ^ 6;
                case 30:
                    return perform(acts, rule, PLAIN, STANDS, x * 3, next);
                case 40:
                    return perform(acts, rule, PLAIN, TELLS, x, next)
                        + perform(acts, rule, rule.kind, DRAWS, 1, next);
                case 50:
                    return -perform(acts, rule, WAIT, STANDS, x, next);
                case 51:
                    return perform(acts, rule, WAIT, DRAWS, x + 1, next);
                case 60:
                    return perform(acts, rule, WAIT, TELLS, x - rule.number, next);
                case 70:
                    return perform(acts, rule, NIGHT, DRAWS, x, next)
                        + perform(acts, rule, NIGHT, STANDS, 2, next);
                case 71:
                    return perform(acts, rule, NIGHT, STANDS, x, next) ^ rule.v;
                default:
                    return 0;
            }
        }

        private static int bodyOf(int kind, int act) {
            int k = kind;
            for (int i = 0; i < ABOVE.length && k > PLAIN && BODIES[k * 3 + act] == 0; i++) {
                k = ABOVE[k];
            }
            return BODIES[k * 3 + act];
        }

        private void note(int body) {
            if (ran < KEPT) {
                bodies[ran] = body;
            }
            ran++;
        }
    }

    /** A row of numbers of one sort, or nothing. */
    private static final class Tape {
        private static final int EMPTY = -1, BYTES = 0, SHORTS = 1, INTS = 2, LONGS = 3, BOOLEANS = 4;

        private int sort = EMPTY;
        private int length;
        private final long[] items = new long[MOST_ITEMS];

        private void become(int itsSort, int n) {
            sort = itsSort;
            length = n;
            for (int i = 0; i < MOST_ITEMS; i++) {
                items[i] = 0;
            }
        }

        private boolean isPlace(int i) {
            return i >= 0 && i < length;
        }

        private boolean isStretch(int i, int n) {
            return i >= 0 && n >= 0 && i <= length && n <= length - i;
        }

        private long narrowed(long v) {
            switch (sort) {
                case BYTES:
                    return (byte) v;
                case SHORTS:
                    return (short) v;
                case INTS:
                    return (int) v;
                case LONGS:
                    return v;
                default:
                    return v == 0 ? 0 : 1;
            }
        }
    }
}
