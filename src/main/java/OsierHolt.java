import java.util.NoSuchElementException;

/** An osier holt and its basket shop. The document ../shared/DOC.md says what each call answers. */
public final class OsierHolt {
    public static final int NONE = -1;

    private static final int MOST_BEDS = 6;
    private static final int MOST_BASKETS = 5;
    private static final int MOST_HANDS = 5;
    private static final int MOST_ORDERS = 6;
    private static final int MOST_RUNS = 6;
    private static final int MOST_FEET = 6;
    private static final int MOST_AGE = 9;
    private static final int MOST_STOOLS = 99;
    private static final int MOST_DAMP = 9;
    private static final int FLOODED_DAMP = 5;
    private static final int LEAST_STAKES = 3;
    private static final int MOST_STAKES = 24;
    private static final int MOST_ROUNDS = 20;
    private static final int MOST_RUN = 4;
    private static final int MOST_MANY = 9;
    private static final int MOST_SKILL = 9;
    private static final int MOST_MONEY = 99;
    private static final int MOST_TOLD = 999;
    private static final int MOST_KEPT = 9999;
    private static final int MOST_YEARS = 60;
    private static final int MOST_GAIN_YEARS = 6;
    private static final int MOST_ODDS = 5;
    private static final int MOST_TEXTS = 12;
    private static final int MOST_HOLT_LINES = 14;
    private static final int MOST_LAW_LINES = 12;
    private static final int MOST_DEEP = 6;
    private static final int MOST_REMEMBERED = 12;
    private static final int SPAN_SEEDS = 6;
    private static final int SORTS = 3;

    private static final int TAPE_BYTES = 400;
    private static final int FED_BYTES = 20;
    private static final int MOST_PIECES = 8;
    private static final int MOST_INCHES = 72;
    private static final int MOST_SEEN_BYTES = 40;
    private static final int PLACES = 100;
    private static final int WEAVES = 80;

    private static final int LOG_ROWS = 60;
    private static final int LOG_CELLS = 4;
    private static final int CUT_ROW = 0;
    private static final int YEAR_ROW = 1;
    private static final int HAND_ROW = 2;

    private final Tape tape = new Tape();
    private final Ways ways = new Ways();
    private final Holt now = new Holt();
    private final Law rules = new Law();
    private final Holt spare = new Holt();
    private final Law spareRules = new Law();
    private final Holt kept = new Holt();
    private final Law keptRules = new Law();
    private final Holt[] past = new Holt[MOST_REMEMBERED];
    private int oldestPast;
    private int remembered;
    private boolean hasImage;

    public OsierHolt() {
        for (int i = 0; i < MOST_REMEMBERED; i++) {
            past[i] = new Holt();
        }
    }

    // ---- the tape and its texts

    public int feed(int a, int b, int c, int d, int e) {
        if (tape.length + FED_BYTES > TAPE_BYTES) {
            return NONE;
        }
        tape.push(a);
        tape.push(b);
        tape.push(c);
        tape.push(d);
        tape.push(e);
        return tape.length;
    }

    public boolean end(int n) {
        if (n < 0 || n > tape.length) {
            return false;
        }
        tape.length = n;
        return true;
    }

    public int holt() throws IllegalArgumentException, UnsupportedOperationException {
        spare.copy(now);
        boolean right = HoltText.read(tape, spare);
        tape.length = 0;
        if (!right) {
            throw new IllegalArgumentException("the text is wrong");
        }
        if (now.texts >= MOST_TEXTS) {
            throw new UnsupportedOperationException("there are 12 texts");
        }
        now.copy(spare);
        now.texts++;
        remembered = 0;
        return now.texts;
    }

    public int law() throws IllegalArgumentException {
        boolean right = LawText.read(tape, spareRules);
        tape.length = 0;
        if (!right) {
            throw new IllegalArgumentException("the text is wrong");
        }
        rules.copy(spareRules);
        remembered = 0;
        return rules.lines;
    }

    public int fault() {
        return tape.fault;
    }

    // ---- what there is

    public int bed(int bed, int what) throws IndexOutOfBoundsException, NoSuchElementException {
        needBed(bed);
        switch (what) {
            case 0:
                return now.beds.sorts[bed];
            case 1:
                return now.beds.ages[bed];
            case 2:
                return now.beds.stools[bed];
            case 3:
                return now.beds.damps[bed];
            case 4:
                return rules.reachOf(now, bed);
            case 5:
                return rules.yieldOf(now, bed);
            case 6:
                return rules.costOf(now, bed);
            case 7:
                return now.beds.partOf(bed);
            default:
                throw new NoSuchElementException("another what");
        }
    }

    public int basket(int basket, int what) throws IndexOutOfBoundsException, NoSuchElementException {
        needBasket(basket);
        Baskets baskets = now.baskets;
        switch (what) {
            case 0:
                return baskets.stakes[basket];
            case 1:
                return baskets.rounds[basket];
            case 2:
                return baskets.feet[basket];
            case 3:
                return baskets.pays[basket];
            case 4:
                return baskets.needOf(basket);
            case 5:
                return baskets.periods[basket];
            case 6:
                return baskets.againOf(basket);
            case 7:
                return baskets.looseOf(basket, baskets.stakes[basket]);
            case 8:
                return baskets.floatOf(basket);
            case 9:
                return baskets.dropOf(basket);
            case 10:
                return baskets.blindOf(basket);
            case 11:
                return baskets.fitOf(basket);
            case 12:
                return ways.nearest(baskets, basket);
            default:
                throw new NoSuchElementException("another what");
        }
    }

    public int run(int basket, int k) throws IndexOutOfBoundsException {
        needBasket(basket);
        if (k < 0 || k >= now.baskets.runCounts[basket]) {
            return NONE;
        }
        return now.baskets.runOf(basket, k);
    }

    public boolean over(int basket, int round, int stake) throws IndexOutOfBoundsException, IllegalArgumentException {
        needBasket(basket);
        int stakes = now.baskets.stakes[basket];
        if (round < 0 || round >= now.baskets.rounds[basket] || stake < 0 || stake >= stakes) {
            throw new IllegalArgumentException("no such round or stake");
        }
        return now.baskets.passesOver(basket, round * stakes + stake);
    }

    public boolean sound(int basket) throws IndexOutOfBoundsException {
        needBasket(basket);
        return now.baskets.looseOf(basket, now.baskets.stakes[basket]) == 0;
    }

    public int store(int feet) throws IndexOutOfBoundsException {
        needFeet(feet);
        return now.store[feet];
    }

    public int hand(int hand, boolean wage) throws IndexOutOfBoundsException {
        needHand(hand);
        return wage ? now.hands.wages[hand] : now.hands.skills[hand];
    }

    public int order(int order, int what) throws IndexOutOfBoundsException, NoSuchElementException {
        needOrder(order);
        switch (what) {
            case 0:
                return now.orders.baskets[order];
            case 1:
                return now.orders.manies[order];
            case 2:
                return now.orders.isOpen(order) ? 1 : 0;
            case 3:
                return now.rodsFor(order);
            default:
                throw new NoSuchElementException("another what");
        }
    }

    // ---- acts

    public int years(int n) throws IllegalArgumentException {
        needWithin(n, 1, MOST_YEARS);
        remember();
        return now.passYears(n);
    }

    public int cut(int bed) throws IndexOutOfBoundsException, IllegalStateException {
        needBed(bed);
        int reach = rules.reachOf(now, bed);
        int cost = rules.costOf(now, bed);
        needPossible(reach > 0 && cost <= now.till);
        int rods = rules.yieldOf(now, bed);
        remember();
        now.till -= cost;
        now.beds.ages[bed] = 0;
        now.store[reach] = Math.min(now.store[reach] + rods, MOST_KEPT);
        now.log.add(now.year, bed, CUT_ROW, rods);
        return rods;
    }

    public int buy(int feet, int n) throws IndexOutOfBoundsException, IllegalArgumentException, IllegalStateException {
        needFeet(feet);
        needWithin(n, 1, MOST_TOLD);
        needPossible(feet * n <= now.till && now.store[feet] + n <= MOST_KEPT);
        remember();
        now.till -= feet * n;
        now.store[feet] += n;
        return now.till;
    }

    public int sell(int feet, int n) throws IndexOutOfBoundsException, IllegalArgumentException, IllegalStateException {
        needFeet(feet);
        needWithin(n, 1, MOST_TOLD);
        needPossible(n <= now.store[feet]);
        remember();
        now.store[feet] -= n;
        now.earn(feet * n / 2);
        return now.till;
    }

    public int take(int basket, int many) throws IndexOutOfBoundsException, IllegalArgumentException, IllegalStateException {
        needBasket(basket);
        needWithin(many, 1, MOST_MANY);
        needPossible(now.orders.size < MOST_ORDERS);
        remember();
        now.orders.add(basket, many);
        return now.orders.size - 1;
    }

    public void drop(int order) throws IndexOutOfBoundsException, IllegalStateException {
        needOrder(order);
        needPossible(now.orders.isOpen(order));
        remember();
        now.orders.shut(order);
    }

    public int drain(int bed, int n) throws IndexOutOfBoundsException, IllegalArgumentException {
        needBed(bed);
        needWithin(n, 0, MOST_DAMP);
        remember();
        int before = now.beds.damps[bed];
        now.beds.damps[bed] = n;
        return before;
    }

    public int hire(int skill, int wage) throws IllegalArgumentException, IllegalStateException {
        needWithin(skill, 1, MOST_SKILL);
        needWithin(wage, 0, MOST_MONEY);
        needPossible(now.hands.size < MOST_HANDS);
        remember();
        now.hands.add(skill, wage);
        return now.hands.size - 1;
    }

    public int teach(int hand) throws IndexOutOfBoundsException {
        needHand(hand);
        remember();
        now.hands.skills[hand] = Math.min(now.hands.skills[hand] + 1, MOST_SKILL);
        return now.hands.skills[hand];
    }

    public int make(int order) throws IndexOutOfBoundsException, IllegalStateException {
        needOrder(order);
        needPossible(now.canMake(order));
        remember();
        now.makeUp(order, HAND_ROW);
        return now.till;
    }

    // ---- what is reckoned

    public int gain(int bed, int n) throws IndexOutOfBoundsException, IllegalArgumentException {
        needBed(bed);
        needWithin(n, 0, MOST_GAIN_YEARS);
        return now.beds.feetCut(bed, n, now.beds.bestCuts(bed, n));
    }

    public int cuts(int bed, int n) throws IndexOutOfBoundsException, IllegalArgumentException {
        needBed(bed);
        needWithin(n, 0, MOST_GAIN_YEARS);
        return now.beds.bestCuts(bed, n);
    }

    public int worth() {
        return now.payOf(now.bestFills());
    }

    public int fills() {
        return now.bestFills();
    }

    public int pieces(int feet) throws IndexOutOfBoundsException, IllegalArgumentException {
        boolean right = ways.takePieces(tape);
        needFeet(feet);
        needTape(right);
        return ways.fewestRods(feet);
    }

    public int rod(int feet, int k) throws IndexOutOfBoundsException, IllegalArgumentException {
        boolean right = ways.takePieces(tape);
        needFeet(feet);
        needTape(right);
        if (ways.fewestRods(feet) == NONE || k < 0 || k >= ways.told) {
            return NONE;
        }
        return ways.best[k];
    }

    public int found(boolean first) throws IllegalArgumentException {
        needTape(ways.takeSeen(tape));
        ways.findWeaves();
        if (!first) {
            return ways.fitting;
        }
        return ways.fitting > 0 ? ways.fits[0] : NONE;
    }

    public int look() throws IllegalArgumentException {
        needTape(ways.takeSeen(tape));
        ways.findWeaves();
        return ways.placeToLook();
    }

    public int team(int hand) throws IndexOutOfBoundsException {
        if (hand != NONE) {
            needHand(hand);
        }
        int most = ways.bestTeam(now);
        return hand == NONE ? most : ways.best[hand];
    }

    public int pairs(int bed) throws IndexOutOfBoundsException {
        if (bed != NONE) {
            needBed(bed);
        }
        int most = ways.bestPairs(now.beds);
        return bed == NONE ? most : ways.best[bed];
    }

    public int change(int basket, int other) throws IndexOutOfBoundsException {
        needBasket(basket);
        needBasket(other);
        return ways.steps(now.baskets, basket, other);
    }

    public int share(int hand, int n) throws IndexOutOfBoundsException, IllegalArgumentException {
        needHand(hand);
        needWithin(n, 0, MOST_MONEY);
        ways.giveBundles(now.hands, n);
        return ways.load[hand];
    }

    public int price(int feet) throws IndexOutOfBoundsException {
        needFeet(feet);
        return now.baskets.bestPrice(feet);
    }

    public int rests(int bed) throws IndexOutOfBoundsException {
        needBed(bed);
        int reach = rules.reachOf(now, bed);
        int drowned = 0 - now.beds.damps[bed];
        int age = now.beds.ages[bed];
        return restBit(0, reach, drowned, 1, 0)
            | restBit(1, reach + 2, age, 0, 1)
            | restBit(2, drowned, reach, 3, 2)
            | restBit(3, age, reach + 2, 2, 3);
    }

    public int odds(int n, int k) throws IllegalArgumentException {
        needWithin(n, 0, MOST_ODDS);
        needWithin(k, 0, MOST_ODDS);
        long floods = 0;
        for (int years = 0; years < 1 << n; years++) {
            if (Integer.bitCount(years) >= k) {
                floods += chanceOf(years, n);
            }
        }
        long all = 1;
        for (int i = 0; i < n; i++) {
            all *= 100;
        }
        return (int) (floods * 10000 / all);
    }

    public int most(int what) throws NoSuchElementException {
        switch (what) {
            case 0:
                return firstGreatest(now.beds.ages, now.beds.size);
            case 1:
                return firstGreatest(now.baskets.pays, now.baskets.size);
            case 2:
                return firstGreatest(now.hands.skills, now.hands.size);
            default:
                throw new NoSuchElementException("another what");
        }
    }

    public int open(boolean can) {
        return can ? now.canMakeBits() : now.orders.openBits;
    }

    public int twins() {
        return now.beds.twinPairs();
    }

    public int sort(int sort) throws IndexOutOfBoundsException {
        needIndex(sort, 0, SORTS - 1);
        return now.beds.ofSort(sort);
    }

    public int lengths() {
        int bits = 0;
        for (int feet = 1; feet <= MOST_FEET; feet++) {
            if (now.store[feet] > 0) {
                bits |= 1 << (feet - 1);
            }
        }
        return bits;
    }

    public int ahead(int bed, int n, boolean stools) throws IndexOutOfBoundsException, IllegalArgumentException {
        needBed(bed);
        needWithin(n, 0, MOST_YEARS);
        return stools ? now.beds.stoolsAhead(bed, n) : Math.min(now.beds.ages[bed] + n, MOST_AGE);
    }

    public int trial(int n, boolean open) throws IllegalArgumentException {
        needWithin(n, 0, MOST_YEARS);
        spare.copy(now);
        spare.passYears(n);
        return open ? spare.orders.openBits : spare.till;
    }

    public int span(int n, boolean most) throws IllegalArgumentException {
        needWithin(n, 0, MOST_YEARS);
        int end = NONE;
        for (int seed = 1; seed <= SPAN_SEEDS; seed++) {
            spare.copy(now);
            spare.seed = seed;
            spare.passYears(n);
            if (end == NONE || (most ? spare.till > end : spare.till < end)) {
                end = spare.till;
            }
        }
        return end;
    }

    public int led(int bed, boolean year) throws IndexOutOfBoundsException {
        needBed(bed);
        return year ? now.log.latestCut(bed) : now.log.cutsOf(bed);
    }

    public int log(int ago, int what) throws NoSuchElementException {
        if (what < 0 || what >= LOG_CELLS) {
            throw new NoSuchElementException("another what");
        }
        return now.log.cellOf(ago, what);
    }

    public int seed(int n) {
        int before = now.seed;
        now.seed = n;
        return before;
    }

    // ---- going back

    public boolean undo() {
        if (remembered < 1) {
            return false;
        }
        remembered--;
        Holt before = past[(oldestPast + remembered) % MOST_REMEMBERED];
        if (before == null) {
            return false;
        }
        now.copy(before);
        return true;
    }

    public void image() {
        kept.copy(now);
        keptRules.copy(rules);
        hasImage = true;
    }

    public boolean back() {
        if (!hasImage) {
            return false;
        }
        now.copy(kept);
        rules.copy(keptRules);
        remembered = 0;
        return true;
    }

    public int count(int what) {
        switch (what) {
            case 0:
                return now.beds.size;
            case 1:
                return now.baskets.size;
            case 2:
                return now.hands.size;
            case 3:
                return now.orders.size;
            case 4:
                return now.texts;
            case 5:
                return rules.lines;
            case 6:
                return now.flood;
            case 7:
                return now.till;
            case 8:
                return now.year;
            case 9:
                return now.wet ? 1 : 0;
            case 10:
                return now.log.rows;
            case 11:
                return remembered;
            default:
                return NONE;
        }
    }

    // ---- what the calls above have in common

    private void needBed(int bed) {
        needIndex(bed, 0, now.beds.size - 1);
    }

    private void needBasket(int basket) {
        needIndex(basket, 0, now.baskets.size - 1);
    }

    private void needHand(int hand) {
        needIndex(hand, 0, now.hands.size - 1);
    }

    private void needOrder(int order) {
        needIndex(order, 0, now.orders.size - 1);
    }

    private static void needFeet(int feet) {
        needIndex(feet, 1, MOST_FEET);
    }

    private static void needIndex(int index, int least, int most) {
        if (index < least || index > most) {
            throw new IndexOutOfBoundsException("there is no such one");
        }
    }

    private static void needWithin(int n, int least, int most) {
        if (n < least || n > most) {
            throw new IllegalArgumentException("the number is none");
        }
    }

    private static void needTape(boolean right) {
        if (!right) {
            throw new IllegalArgumentException("the tape is not that");
        }
    }

    private static void needPossible(boolean possible) {
        if (!possible) {
            throw new IllegalStateException("it cannot be");
        }
    }

    private void remember() {
        if (remembered == MOST_REMEMBERED) {
            oldestPast = (oldestPast + 1) % MOST_REMEMBERED;
            remembered--;
        }
        Holt next = past[(oldestPast + remembered) % MOST_REMEMBERED];
        if (next != null) {
            next.copy(now);
            remembered++;
        }
    }

    private static int restBit(int choices, int cutter, int cutterElse, int river, int riverElse) {
        return cutter >= cutterElse && river >= riverElse ? 1 << choices : 0;
    }

    private long chanceOf(int floodYears, int n) {
        long chance = 1;
        for (int i = 0; i < n; i++) {
            chance *= (floodYears >> i & 1) == 1 ? now.flood : 100 - now.flood;
        }
        return chance;
    }

    private static int firstGreatest(int[] values, int size) {
        int greatest = NONE;
        for (int i = 0; i < size && i < values.length; i++) {
            if (greatest == NONE || values[i] > values[greatest]) {
                greatest = i;
            }
        }
        return greatest;
    }

    /** The bytes that were fed, and the reading of a text from them, thing by thing. */
    private static final class Tape {
        final int[] bytes = new int[TAPE_BYTES];
        int length;
        int fault = NONE;
        // Stands on the next thing at all times, never on a blank: so a fault is always where it stands.
        private int at;

        void push(int number) {
            for (int shift = 24; shift >= 0 && length < TAPE_BYTES; shift -= 8) {
                bytes[length] = number >>> shift & 255;
                length++;
            }
        }

        void start() {
            fault = NONE;
            moveTo(0);
        }

        boolean failed() {
            return fault != NONE;
        }

        void fail() {
            if (fault == NONE) {
                fault = at;
            }
        }

        /** Whether another LINE comes; what cannot stand between two LINES, or begins one too many, is a fault. */
        boolean lineComes(int line, int mostLines) {
            if (failed() || at >= length) {
                return false;
            }
            if (line == 0) {
                return true;
            }
            if (!takeSign(';') || line >= mostLines) {
                fail();
            }
            return !failed();
        }

        boolean isSign(int sign) {
            return !failed() && at < length && bytes[at] == sign;
        }

        boolean takeSign(int sign) {
            boolean here = isSign(sign);
            if (here) {
                moveTo(at + 1);
            }
            return here;
        }

        boolean isWord(String word) {
            int end = at + word.length();
            if (fault != NONE || end > length) {
                return false;
            }
            for (int i = at; i < end; i++) {
                if (bytes[i] != word.charAt(i - at)) {
                    return false;
                }
            }
            return end == length || bytes[end] < 'a' || bytes[end] > 'z';
        }

        boolean takeWord(String word) {
            boolean here = isWord(word);
            if (here) {
                moveTo(at + word.length());
            }
            return here;
        }

        void needWord(String word) {
            if (!takeWord(word)) {
                fail();
            }
        }

        boolean isNumber() {
            return !failed() && at < length && isDigit(bytes[at]);
        }

        int takeNumber(int least, int most) {
            int end = at;
            int value = 0;
            while (end < length && end - at <= 3 && isDigit(bytes[end])) {
                value = 10 * value + bytes[end] - '0';
                end++;
            }
            if (end == at || end - at > 3 || value < least || value > most) {
                fail();
            }
            if (failed()) {
                return least;
            }
            moveTo(end);
            return value;
        }

        private static boolean isDigit(int sign) {
            return sign >= '0' && sign <= '9';
        }

        private void moveTo(int place) {
            at = place;
            while (at < length && bytes[at] == ' ') {
                at++;
            }
        }
    }

    /** Reads a text of THE HOLT into a holt that is thrown away if the text is wrong. */
    private static final class HoltText {
        static boolean read(Tape text, Holt into) {
            text.start();
            for (int line = 0; line <= MOST_HOLT_LINES && text.lineComes(line, MOST_HOLT_LINES); line++) {
                readLine(text, into);
            }
            return !text.failed();
        }

        private static void readLine(Tape text, Holt into) {
            if (text.isWord("bed") && into.beds.size < MOST_BEDS) {
                readBed(text, into.beds);
            } else if (text.isWord("basket") && into.baskets.size < MOST_BASKETS) {
                readBasket(text, into.baskets);
            } else if (text.isWord("hand") && into.hands.size < MOST_HANDS) {
                readHand(text, into.hands);
            } else if (text.isWord("order") && into.orders.size < MOST_ORDERS) {
                readOrder(text, into);
            } else if (text.takeWord("rods")) {
                int feet = text.takeNumber(1, MOST_FEET);
                into.store[feet] = text.takeNumber(0, MOST_TOLD);
            } else if (text.takeWord("flood")) {
                into.flood = text.takeNumber(0, 100);
            } else if (text.takeWord("till")) {
                into.till = text.takeNumber(0, MOST_TOLD);
            } else if (text.takeWord("year")) {
                into.year = text.takeNumber(0, MOST_TOLD);
            } else if (text.takeWord("wet")) {
                into.wet = true;
            } else {
                text.fail();
            }
        }

        private static void readBed(Tape text, Beds into) {
            text.needWord("bed");
            int sort = readSort(text);
            text.needWord("age");
            int age = text.takeNumber(0, MOST_AGE);
            text.needWord("stools");
            int stools = text.takeNumber(1, MOST_STOOLS);
            int damp = text.takeWord("damp") ? text.takeNumber(0, MOST_DAMP) : 0;
            into.add(sort, age, stools, damp);
        }

        private static int readSort(Tape text) {
            if (text.takeWord("osier")) {
                return 0;
            }
            if (text.takeWord("purple")) {
                return 1;
            }
            text.needWord("almond");
            return 2;
        }

        private static void readBasket(Tape text, Baskets into) {
            int basket = into.size;
            text.needWord("basket");
            text.needWord("stakes");
            into.stakes[basket] = text.takeNumber(LEAST_STAKES, MOST_STAKES);
            text.needWord("rounds");
            into.rounds[basket] = text.takeNumber(1, MOST_ROUNDS);
            text.needWord("weave");
            into.beginWeave(basket);
            for (int pair = 0; pair < MOST_RUNS / 2 && (pair == 0 || text.isNumber()); pair++) {
                into.addRun(basket, text.takeNumber(1, MOST_RUN));
                into.addRun(basket, text.takeNumber(1, MOST_RUN));
            }
            text.needWord("feet");
            into.feet[basket] = text.takeNumber(1, MOST_FEET);
            text.needWord("pays");
            into.pays[basket] = text.takeNumber(0, MOST_MONEY);
            into.size++;
        }

        private static void readHand(Tape text, Hands into) {
            text.needWord("hand");
            text.needWord("skill");
            int skill = text.takeNumber(1, MOST_SKILL);
            text.needWord("wage");
            int wage = text.takeNumber(0, MOST_MONEY);
            into.add(skill, wage);
        }

        private static void readOrder(Tape text, Holt into) {
            text.needWord("order");
            int basket = text.takeNumber(0, into.baskets.size - 1);
            int many = text.takeNumber(1, MOST_MANY);
            into.orders.add(basket, many);
        }
    }

    /** Reads a text of THE LAW into rules that are thrown away if the text is wrong. */
    private static final class LawText {
        static boolean read(Tape text, Law into) {
            text.start();
            into.clear();
            for (int line = 0; line <= MOST_LAW_LINES && text.lineComes(line, MOST_LAW_LINES); line++) {
                int kind = readKind(text);
                int amount = text.takeNumber(0, MOST_MONEY);
                if (text.takeWord("if")) {
                    readAny(text, into, 0);
                }
                into.endLine(kind, amount);
            }
            return !text.failed();
        }

        private static int readKind(Tape text) {
            if (text.takeWord("grow")) {
                return Law.GROW;
            }
            if (text.takeWord("rot")) {
                return Law.ROT;
            }
            text.needWord("dear");
            return Law.DEAR;
        }

        private static void readAny(Tape text, Law into, int deep) {
            readAll(text, into, deep);
            for (int i = 0; i < TAPE_BYTES && text.takeWord("or"); i++) {
                readAll(text, into, deep);
                into.emit(Law.OR);
            }
        }

        private static void readAll(Tape text, Law into, int deep) {
            readAtom(text, into, deep);
            for (int i = 0; i < TAPE_BYTES && text.takeWord("and"); i++) {
                readAtom(text, into, deep);
                into.emit(Law.AND);
            }
        }

        private static void readAtom(Tape text, Law into, int deep) {
            if (deep < MOST_DEEP && text.takeWord("not")) {
                readAtom(text, into, deep + 1);
                into.emit(Law.NOT);
            } else if (deep < MOST_DEEP && text.takeSign('(')) {
                readAny(text, into, deep + 1);
                if (!text.takeSign(')')) {
                    text.fail();
                }
            } else if (text.takeWord("wet")) {
                into.emit(Law.WET);
            } else if (text.takeWord("ripe")) {
                into.emit(Law.RIPE);
            } else if (text.takeWord("crowded")) {
                into.emit(Law.CROWDED);
            } else {
                readComparison(text, into);
            }
        }

        private static void readComparison(Tape text, Law into) {
            readSum(text, into);
            if (text.takeSign('<')) {
                readSum(text, into);
                into.emit(Law.BELOW);
            } else if (text.takeSign('>')) {
                readSum(text, into);
                into.emit(Law.ABOVE);
            } else {
                text.fail();
            }
        }

        private static void readSum(Tape text, Law into) {
            into.emit(readPart(text));
            for (int i = 0; i < TAPE_BYTES && text.takeSign('+'); i++) {
                into.emit(readPart(text));
                into.emit(Law.PLUS);
            }
        }

        private static int readPart(Tape text) {
            if (text.takeWord("bed")) {
                return Law.BED;
            }
            if (text.takeWord("sort")) {
                return Law.SORT;
            }
            if (text.takeWord("age")) {
                return Law.AGE;
            }
            if (text.takeWord("stools")) {
                return Law.STOOLS;
            }
            if (text.takeWord("damp")) {
                return Law.DAMP;
            }
            if (text.takeWord("till")) {
                return Law.TILL;
            }
            if (text.takeWord("year")) {
                return Law.YEAR;
            }
            return text.takeNumber(0, MOST_TOLD);
        }
    }

    /** THE LAW: of each LINE its kind, its N and its condition as code, in which what is joined stands ahead of what joins. */
    private static final class Law {
        static final int GROW = 0;
        static final int ROT = 1;
        static final int DEAR = 2;

        // In the code a number below BED is itself.
        static final int BED = 1000;
        static final int SORT = 1001;
        static final int AGE = 1002;
        static final int STOOLS = 1003;
        static final int DAMP = 1004;
        static final int TILL = 1005;
        static final int YEAR = 1006;
        static final int WET = 1007;
        static final int RIPE = 1008;
        static final int CROWDED = 1009;
        static final int NOT = 1010;
        static final int PLUS = 1011;
        static final int BELOW = 1012;
        static final int ABOVE = 1013;
        static final int AND = 1014;
        static final int OR = 1015;

        // Two of each of seven depths wait to be joined, and three of a comparison.
        private static final int MOST_WAITING = 24;

        int lines = NONE;
        private final int[] kinds = new int[MOST_LAW_LINES];
        private final int[] amounts = new int[MOST_LAW_LINES];
        private final int[] ends = new int[MOST_LAW_LINES];
        private final int[] code = new int[TAPE_BYTES];
        private int codeLength;
        private final int[] waiting = new int[MOST_WAITING];

        void clear() {
            lines = 0;
            codeLength = 0;
        }

        void copy(Law other) {
            lines = other.lines;
            codeLength = other.codeLength;
            System.arraycopy(other.kinds, 0, kinds, 0, MOST_LAW_LINES);
            System.arraycopy(other.amounts, 0, amounts, 0, MOST_LAW_LINES);
            System.arraycopy(other.ends, 0, ends, 0, MOST_LAW_LINES);
            System.arraycopy(other.code, 0, code, 0, TAPE_BYTES);
        }

        void emit(int next) {
            if (codeLength < TAPE_BYTES) {
                code[codeLength] = next;
                codeLength++;
            }
        }

        void endLine(int kind, int amount) {
            if (lines < MOST_LAW_LINES) {
                kinds[lines] = kind;
                amounts[lines] = amount;
                ends[lines] = codeLength;
                lines++;
            }
        }

        int reachOf(Holt holt, int bed) {
            int reach = holt.beds.ages[bed] + sumOf(GROW, holt, bed) - sumOf(ROT, holt, bed);
            return Math.max(0, Math.min(reach, MOST_FEET));
        }

        int yieldOf(Holt holt, int bed) {
            return reachOf(holt, bed) == 0 ? 0 : 2 * holt.beds.stools[bed];
        }

        int costOf(Holt holt, int bed) {
            return 5 + sumOf(DEAR, holt, bed);
        }

        private int sumOf(int kind, Holt holt, int bed) {
            int sum = 0;
            for (int line = 0; line < lines; line++) {
                if (kinds[line] == kind && holds(line, holt, bed)) {
                    sum += amounts[line];
                }
            }
            return sum;
        }

        private boolean holds(int line, Holt holt, int bed) {
            int begin = line == 0 ? 0 : ends[line - 1];
            int end = ends[line];
            int many = 0;
            for (int i = begin; i < end; i++) {
                many = reckon(code[i], many, holt, bed);
            }
            return begin == end || waiting[0] != 0;
        }

        /** Reckons one step of code on the values that wait; answers how many wait then. */
        private int reckon(int step, int many, Holt holt, int bed) {
            if (step < NOT) {
                if (many >= MOST_WAITING) {
                    return many;
                }
                waiting[many] = step < BED ? step : valueOf(step, holt, bed);
                return many + 1;
            }
            if (step == NOT) {
                if (many >= 1) {
                    waiting[many - 1] = 1 - waiting[many - 1];
                }
                return many;
            }
            if (many < 2) {
                return many;
            }
            waiting[many - 2] = joined(step, waiting[many - 2], waiting[many - 1]);
            return many - 1;
        }

        private static int valueOf(int step, Holt holt, int bed) {
            switch (step) {
                case BED:
                    return bed;
                case SORT:
                    return holt.beds.sorts[bed];
                case AGE:
                    return holt.beds.ages[bed];
                case STOOLS:
                    return holt.beds.stools[bed];
                case DAMP:
                    return holt.beds.damps[bed];
                case TILL:
                    return holt.till;
                case YEAR:
                    return holt.year % 100;
                case WET:
                    return holt.wet ? 1 : 0;
                case RIPE:
                    return holt.beds.ages[bed] >= 2 ? 1 : 0;
                default:
                    return holt.beds.stools[bed] > 50 ? 1 : 0;
            }
        }

        private static int joined(int step, int left, int right) {
            switch (step) {
                case PLUS:
                    return left + right;
                case BELOW:
                    return left < right ? 1 : 0;
                case ABOVE:
                    return left > right ? 1 : 0;
                case AND:
                    return left & right;
                default:
                    return left | right;
            }
        }
    }

    /** All that a year, an act or a text changes, THE LAW aside: no act changes that. */
    private static final class Holt {
        final Beds beds = new Beds();
        final Baskets baskets = new Baskets();
        final Hands hands = new Hands();
        final Orders orders = new Orders();
        final Log log = new Log();
        final int[] store = new int[MOST_FEET + 1];
        int texts;
        int flood;
        int till = 50;
        int year;
        int seed = 1;
        boolean wet;

        void copy(Holt other) {
            beds.copy(other.beds);
            baskets.copy(other.baskets);
            hands.copy(other.hands);
            orders.copy(other.orders);
            log.copy(other.log);
            System.arraycopy(other.store, 0, store, 0, MOST_FEET + 1);
            texts = other.texts;
            flood = other.flood;
            till = other.till;
            year = other.year;
            seed = other.seed;
            wet = other.wet;
        }

        void earn(int money) {
            till = Math.min(till + money, MOST_KEPT);
        }

        /** Answers how many orders were made up. */
        int passYears(int n) {
            int made = 0;
            for (int i = 0; i < n; i++) {
                made += passYear();
            }
            return made;
        }

        private int passYear() {
            // The draw comes without a flood, too: the seed goes on all the same.
            wet = draw() % 100 < flood;
            beds.grow(wet);
            int made = makeOrders(payHands());
            year = Math.min(year + 1, MOST_KEPT);
            return made;
        }

        private int draw() {
            seed = 1103515245 * seed + 12345;
            return seed >>> 16 & 32767;
        }

        /** Answers the skills of the hands that work. */
        private int payHands() {
            int skills = 0;
            for (int hand = 0; hand < hands.size; hand++) {
                if (till >= hands.wages[hand]) {
                    till -= hands.wages[hand];
                    skills += hands.skills[hand];
                }
            }
            return skills;
        }

        private int makeOrders(int skills) {
            int made = 0;
            for (int order = 0; order < orders.size; order++) {
                if (skills >= orders.manies[order] && canMake(order)) {
                    makeUp(order, YEAR_ROW);
                    made++;
                }
            }
            return made;
        }

        int rodsFor(int order) {
            return orders.manies[order] * baskets.needOf(orders.baskets[order]);
        }

        int feetFor(int order) {
            return baskets.feet[orders.baskets[order]];
        }

        private int payFor(int order) {
            return orders.manies[order] * baskets.pays[orders.baskets[order]];
        }

        boolean canMake(int order) {
            return orders.isOpen(order) && store[feetFor(order)] >= rodsFor(order);
        }

        void makeUp(int order, int kind) {
            int rods = rodsFor(order);
            store[feetFor(order)] -= rods;
            earn(payFor(order));
            orders.shut(order);
            log.add(year, order, kind, rods);
        }

        int canMakeBits() {
            int bits = 0;
            for (int order = 0; order < orders.size; order++) {
                if (canMake(order)) {
                    bits |= 1 << order;
                }
            }
            return bits;
        }

        /** Of several sets that pay the most, the fewest orders, then the least bits. */
        int bestFills() {
            int best = 0;
            for (int fills = 1; fills < 1 << orders.size; fills++) {
                int more = payOf(fills) - payOf(best);
                boolean better = more > 0 || more == 0 && Integer.bitCount(fills) < Integer.bitCount(best);
                if (better && canFill(fills)) {
                    best = fills;
                }
            }
            return best;
        }

        int payOf(int fills) {
            int pay = 0;
            for (int order = 0; order < orders.size; order++) {
                if ((fills >> order & 1) == 1) {
                    pay += payFor(order);
                }
            }
            return pay;
        }

        private boolean canFill(int fills) {
            if ((fills & orders.openBits) != fills) {
                return false;
            }
            for (int feet = 1; feet <= MOST_FEET; feet++) {
                int rods = 0;
                for (int order = 0; order < orders.size; order++) {
                    if ((fills >> order & 1) == 1 && feetFor(order) == feet) {
                        rods += rodsFor(order);
                    }
                }
                if (rods > store[feet]) {
                    return false;
                }
            }
            return true;
        }
    }

    private static final class Beds {
        int size;
        final int[] sorts = new int[MOST_BEDS];
        final int[] ages = new int[MOST_BEDS];
        final int[] stools = new int[MOST_BEDS];
        final int[] damps = new int[MOST_BEDS];

        void copy(Beds other) {
            size = other.size;
            System.arraycopy(other.sorts, 0, sorts, 0, MOST_BEDS);
            System.arraycopy(other.ages, 0, ages, 0, MOST_BEDS);
            System.arraycopy(other.stools, 0, stools, 0, MOST_BEDS);
            System.arraycopy(other.damps, 0, damps, 0, MOST_BEDS);
        }

        void add(int sort, int age, int stool, int damp) {
            if (size < MOST_BEDS) {
                sorts[size] = sort;
                ages[size] = age;
                stools[size] = stool;
                damps[size] = damp;
                size++;
            }
        }

        void grow(boolean wet) {
            for (int bed = 0; bed < size; bed++) {
                if (!wet || damps[bed] < FLOODED_DAMP) {
                    ages[bed] = Math.min(ages[bed] + 1, MOST_AGE);
                }
                if (ages[bed] == MOST_AGE) {
                    stools[bed] = Math.max(stools[bed] - 1, 1);
                }
            }
        }

        int stoolsAhead(int bed, int n) {
            int firstOldYear = Math.max(1, MOST_AGE - ages[bed]);
            int oldYears = Math.max(0, n + 1 - firstOldYear);
            return Math.max(1, stools[bed] - oldYears);
        }

        int partOf(int bed) {
            int all = 0;
            for (int i = 0; i < size; i++) {
                all += stools[i];
            }
            return all < 1 ? 0 : 100 * stools[bed] / all;
        }

        /** Feet of rods that the bed would give, cut in these of the next n years. */
        int feetCut(int bed, int n, int cutYears) {
            int age = ages[bed];
            int feet = 0;
            for (int i = 0; i < n; i++) {
                age = Math.min(age + 1, MOST_AGE);
                if ((cutYears >> i & 1) == 1) {
                    feet += 2 * stools[bed] * Math.min(age, MOST_FEET);
                    age = 0;
                }
            }
            return feet;
        }

        /** Of several that give the most, the fewest cuts, then the least bits. */
        int bestCuts(int bed, int n) {
            int best = 0;
            for (int cutYears = 1; cutYears < 1 << n; cutYears++) {
                int more = feetCut(bed, n, cutYears) - feetCut(bed, n, best);
                if (more > 0 || more == 0 && Integer.bitCount(cutYears) < Integer.bitCount(best)) {
                    best = cutYears;
                }
            }
            return best;
        }

        int twinPairs() {
            int pairs = 0;
            for (int one = 0; one < size; one++) {
                for (int other = one + 1; other < size; other++) {
                    if (sorts[one] == sorts[other] && ages[one] == ages[other]) {
                        pairs++;
                    }
                }
            }
            return pairs;
        }

        int ofSort(int sort) {
            int bits = 0;
            for (int bed = 0; bed < size; bed++) {
                if (sorts[bed] == sort) {
                    bits |= 1 << bed;
                }
            }
            return bits;
        }
    }

    private static final class Baskets {
        int size;
        final int[] stakes = new int[MOST_BASKETS];
        final int[] rounds = new int[MOST_BASKETS];
        final int[] feet = new int[MOST_BASKETS];
        final int[] pays = new int[MOST_BASKETS];
        final int[] runCounts = new int[MOST_BASKETS];
        final int[] periods = new int[MOST_BASKETS];
        private final int[] runs = new int[MOST_BASKETS * MOST_RUNS];
        // A weave is no longer than 24 places, so the places that it passes over fit into an int.
        private final int[] overs = new int[MOST_BASKETS];

        void copy(Baskets other) {
            size = other.size;
            System.arraycopy(other.stakes, 0, stakes, 0, MOST_BASKETS);
            System.arraycopy(other.rounds, 0, rounds, 0, MOST_BASKETS);
            System.arraycopy(other.feet, 0, feet, 0, MOST_BASKETS);
            System.arraycopy(other.pays, 0, pays, 0, MOST_BASKETS);
            System.arraycopy(other.runCounts, 0, runCounts, 0, MOST_BASKETS);
            System.arraycopy(other.periods, 0, periods, 0, MOST_BASKETS);
            System.arraycopy(other.runs, 0, runs, 0, MOST_BASKETS * MOST_RUNS);
            System.arraycopy(other.overs, 0, overs, 0, MOST_BASKETS);
        }

        void beginWeave(int basket) {
            runCounts[basket] = 0;
            periods[basket] = 0;
            overs[basket] = 0;
        }

        void addRun(int basket, int run) {
            int k = runCounts[basket];
            if (k >= MOST_RUNS) {
                return;
            }
            if (k % 2 == 0) {
                overs[basket] |= (1 << run) - 1 << periods[basket];
            }
            runs[basket * MOST_RUNS + k] = run;
            periods[basket] += run;
            runCounts[basket]++;
        }

        int runOf(int basket, int k) {
            return runs[basket * MOST_RUNS + k];
        }

        boolean passesOver(int basket, int place) {
            int period = periods[basket];
            return period > 0 && (overs[basket] >> place % period & 1) == 1;
        }

        int needOf(int basket) {
            int perRod = 12 * feet[basket] - 2;
            if (perRod < 1) {
                return 0;
            }
            int inches = stakes[basket] * rounds[basket] * 2;
            return stakes[basket] + (inches + perRod - 1) / perRod;
        }

        int againOf(int basket) {
            int period = periods[basket];
            for (int again = 1; again < period; again++) {
                if (isAlikeAfter(basket, again * stakes[basket])) {
                    return again;
                }
            }
            return period;
        }

        private boolean isAlikeAfter(int basket, int places) {
            for (int place = 0; place < periods[basket]; place++) {
                if (passesOver(basket, place) != passesOver(basket, place + places)) {
                    return false;
                }
            }
            return true;
        }

        int looseOf(int basket, int stakesThen) {
            int loose = 0;
            for (int stake = 0; stake < stakesThen; stake++) {
                if (longestAlike(basket, stake, stakesThen, rounds[basket]) == rounds[basket]) {
                    loose |= 1 << stake;
                }
            }
            return loose;
        }

        int floatOf(int basket) {
            return longestAlike(basket, 0, 1, stakes[basket] * rounds[basket]);
        }

        int dropOf(int basket) {
            int longest = 0;
            for (int stake = 0; stake < stakes[basket]; stake++) {
                longest = Math.max(longest, longestAlike(basket, stake, stakes[basket], rounds[basket]));
            }
            return longest;
        }

        /** How many of so many places, from the first one on by steps, are passed alike one behind another at the most. */
        private int longestAlike(int basket, int first, int step, int many) {
            int longest = 0;
            int alike = 0;
            boolean before = false;
            for (int i = 0; i < many; i++) {
                boolean over = passesOver(basket, first + i * step);
                alike = i > 0 && over == before ? alike + 1 : 1;
                longest = Math.max(longest, alike);
                before = over;
            }
            return longest;
        }

        int blindOf(int basket) {
            int blind = 0;
            for (int round = 1; round < rounds[basket]; round++) {
                if (isBlind(basket, round)) {
                    blind++;
                }
            }
            return blind;
        }

        private boolean isBlind(int basket, int round) {
            for (int stake = 0; stake < stakes[basket]; stake++) {
                int place = round * stakes[basket] + stake;
                if (passesOver(basket, place) != passesOver(basket, place - stakes[basket])) {
                    return false;
                }
            }
            return true;
        }

        int fitOf(int basket) {
            for (int stakesThen = LEAST_STAKES; stakesThen <= MOST_STAKES; stakesThen++) {
                if (looseOf(basket, stakesThen) == 0) {
                    return stakesThen;
                }
            }
            return NONE;
        }

        int bestPrice(int ofFeet) {
            int best = 0;
            int most = 0;
            for (int price = 0; price <= MOST_MONEY; price++) {
                int all = price * buyersAt(price, ofFeet);
                if (all > most) {
                    best = price;
                    most = all;
                }
            }
            return best;
        }

        private int buyersAt(int price, int ofFeet) {
            int buyers = 0;
            for (int basket = 0; basket < size; basket++) {
                if (feet[basket] == ofFeet && pays[basket] >= price) {
                    buyers++;
                }
            }
            return buyers;
        }
    }

    private static final class Hands {
        int size;
        final int[] skills = new int[MOST_HANDS];
        final int[] wages = new int[MOST_HANDS];

        void copy(Hands other) {
            size = other.size;
            System.arraycopy(other.skills, 0, skills, 0, MOST_HANDS);
            System.arraycopy(other.wages, 0, wages, 0, MOST_HANDS);
        }

        void add(int skill, int wage) {
            if (size < MOST_HANDS) {
                skills[size] = skill;
                wages[size] = wage;
                size++;
            }
        }
    }

    private static final class Orders {
        int size;
        int openBits;
        final int[] baskets = new int[MOST_ORDERS];
        final int[] manies = new int[MOST_ORDERS];

        void copy(Orders other) {
            size = other.size;
            openBits = other.openBits;
            System.arraycopy(other.baskets, 0, baskets, 0, MOST_ORDERS);
            System.arraycopy(other.manies, 0, manies, 0, MOST_ORDERS);
        }

        void add(int basket, int many) {
            if (size < MOST_ORDERS) {
                baskets[size] = basket;
                manies[size] = many;
                openBits |= 1 << size;
                size++;
            }
        }

        boolean isOpen(int order) {
            return (openBits >> order & 1) == 1;
        }

        void shut(int order) {
            openBits &= ~(1 << order);
        }
    }

    private static final class Log {
        int rows;
        private final int[] cells = new int[LOG_ROWS * LOG_CELLS];

        void copy(Log other) {
            rows = other.rows;
            System.arraycopy(other.cells, 0, cells, 0, LOG_ROWS * LOG_CELLS);
        }

        void add(int year, int one, int kind, int rods) {
            if (rows == LOG_ROWS) {
                System.arraycopy(cells, LOG_CELLS, cells, 0, (LOG_ROWS - 1) * LOG_CELLS);
                rows--;
            }
            int cell = rows * LOG_CELLS;
            cells[cell] = year;
            cells[cell + 1] = one;
            cells[cell + 2] = kind;
            cells[cell + 3] = rods;
            rows++;
        }

        int cellOf(int ago, int what) {
            if (ago < 0 || ago >= rows) {
                return NONE;
            }
            return cells[(rows - 1 - ago) * LOG_CELLS + what];
        }

        private boolean isCut(int ago, int bed) {
            return cellOf(ago, 1) == bed && cellOf(ago, 2) == CUT_ROW;
        }

        int cutsOf(int bed) {
            int cuts = 0;
            for (int ago = 0; ago < rows; ago++) {
                if (isCut(ago, bed)) {
                    cuts++;
                }
            }
            return cuts;
        }

        int latestCut(int bed) {
            for (int ago = 0; ago < rows; ago++) {
                if (isCut(ago, bed)) {
                    return cellOf(ago, 0);
                }
            }
            return NONE;
        }
    }

    /** What is found by trying all ways, and the rows for it, made once. */
    private static final class Ways {
        private static final int MOST_TRIED = 8;

        int told;
        private final int[] tellings = new int[MOST_SEEN_BYTES];
        final int[] best = new int[MOST_TRIED];
        private final int[] tried = new int[MOST_TRIED];
        final int[] load = new int[MOST_TRIED];
        private int bestValue;
        int fitting;
        final int[] fits = new int[WEAVES];
        private final int[] costs = new int[MOST_RUNS + 1];

        /** Uses the tape up, whether it is right or not. */
        boolean takePieces(Tape tape) {
            boolean right = takeTelling(tape, MOST_PIECES);
            for (int i = 0; i < told; i++) {
                right = right && tellings[i] >= 1 && tellings[i] <= MOST_INCHES;
            }
            return right;
        }

        /** Uses the tape up, whether it is right or not. */
        boolean takeSeen(Tape tape) {
            boolean right = takeTelling(tape, MOST_SEEN_BYTES) && told % 2 == 0;
            for (int i = 0; i < told; i++) {
                right = right && tellings[i] < (i % 2 == 0 ? PLACES : 2);
            }
            return right;
        }

        private boolean takeTelling(Tape tape, int most) {
            boolean right = tape.length <= most && most <= MOST_SEEN_BYTES;
            told = right ? tape.length : 0;
            System.arraycopy(tape.bytes, 0, tellings, 0, told);
            tape.length = 0;
            return right;
        }

        private void beginTrying() {
            bestValue = NONE;
            for (int i = 0; i < MOST_TRIED; i++) {
                load[i] = 0;
                tried[i] = NONE;
            }
        }

        private void keepTried(int value) {
            bestValue = value;
            System.arraycopy(tried, 0, best, 0, MOST_TRIED);
        }

        int fewestRods(int feet) {
            beginTrying();
            tryRods(this, 0, 0, 12 * feet);
            return bestValue;
        }

        // Ways are tried from the first one on: so of several alike the first one stays.
        private static void tryRods(Ways ways, int piece, int rods, int inches) {
            if (ways.bestValue != NONE && rods >= ways.bestValue) {
                return;
            }
            if (piece >= ways.told || piece >= MOST_TRIED) {
                ways.keepTried(rods);
                return;
            }
            int length = ways.tellings[piece];
            for (int rod = 0; rod <= rods && rod < MOST_TRIED; rod++) {
                if (ways.load[rod] + length <= inches) {
                    ways.load[rod] += length;
                    ways.tried[piece] = rod;
                    tryRods(ways, piece + 1, Math.max(rods, rod + 1), inches);
                    ways.load[rod] -= length;
                }
            }
        }

        int bestTeam(Holt holt) {
            beginTrying();
            tryTeam(this, holt, 0, holt.orders.openBits, 0);
            return bestValue;
        }

        private static void tryTeam(Ways ways, Holt holt, int hand, int free, int value) {
            if (hand >= holt.hands.size) {
                if (value > ways.bestValue) {
                    ways.keepTried(value);
                }
                return;
            }
            ways.tried[hand] = NONE;
            tryTeam(ways, holt, hand + 1, free, value);
            for (int order = 0; order < holt.orders.size; order++) {
                if ((free >> order & 1) == 1) {
                    int pays = holt.baskets.pays[holt.orders.baskets[order]];
                    ways.tried[hand] = order;
                    tryTeam(ways, holt, hand + 1, free & ~(1 << order), value + holt.hands.skills[hand] * pays);
                }
            }
        }

        int bestPairs(Beds beds) {
            beginTrying();
            tryPairs(this, beds, 0, 0);
            return bestValue;
        }

        private static void tryPairs(Ways ways, Beds beds, int bed, int value) {
            if (bed >= beds.size) {
                if (value > ways.bestValue) {
                    ways.keepTried(value);
                }
                return;
            }
            tryPairs(ways, beds, bed + 1, value);
            if (ways.tried[bed] != NONE) {
                return;
            }
            for (int other = bed + 1; other < beds.size; other++) {
                if (ways.tried[other] == NONE && beds.sorts[bed] != beds.sorts[other]) {
                    ways.tried[bed] = other;
                    ways.tried[other] = bed;
                    tryPairs(ways, beds, bed + 1, value + beds.stools[bed] + beds.stools[other]);
                    ways.tried[bed] = NONE;
                    ways.tried[other] = NONE;
                }
            }
        }

        /** All weaves of two runs that fit what was seen, the least ones first. */
        void findWeaves() {
            fitting = 0;
            for (int over = 1; over <= MOST_RUN; over++) {
                for (int under = 1; under <= MOST_RUN; under++) {
                    for (int later = 0; later < over + under; later++) {
                        keepIfSeen(100 * over + 10 * under + later);
                    }
                }
            }
        }

        private void keepIfSeen(int weave) {
            boolean seen = true;
            for (int i = 0; i + 1 < told; i += 2) {
                seen = seen && isOver(weave, tellings[i]) == (tellings[i + 1] == 1);
            }
            if (seen && fitting < WEAVES) {
                fits[fitting] = weave;
                fitting++;
            }
        }

        private static boolean isOver(int weave, int place) {
            int over = weave / 100;
            int period = over + weave / 10 % 10;
            return period > 0 && (place + weave % 10) % period < over;
        }

        int placeToLook() {
            if (fitting < 2) {
                return NONE;
            }
            int best = NONE;
            int least = fitting;
            for (int place = 0; place < PLACES; place++) {
                int greater = greaterPart(place);
                if (best == NONE || greater < least) {
                    best = place;
                    least = greater;
                }
            }
            return best;
        }

        private int greaterPart(int place) {
            int overs = 0;
            for (int i = 0; i < fitting; i++) {
                if (isOver(fits[i], place)) {
                    overs++;
                }
            }
            return Math.max(overs, fitting - overs);
        }

        /** The fewest runs put in, taken out or changed, reckoned row by row. */
        int steps(Baskets baskets, int from, int to) {
            int width = baskets.runCounts[to];
            for (int k = 0; k <= width; k++) {
                costs[k] = k;
            }
            for (int i = 0; i < baskets.runCounts[from]; i++) {
                int aslant = costs[0];
                costs[0] = i + 1;
                for (int k = 1; k <= width; k++) {
                    boolean same = baskets.runOf(from, i) == baskets.runOf(to, k - 1);
                    int changed = same ? aslant : aslant + 1;
                    aslant = costs[k];
                    costs[k] = Math.min(changed, Math.min(costs[k], costs[k - 1]) + 1);
                }
            }
            return costs[width];
        }

        int nearest(Baskets baskets, int basket) {
            int nearest = NONE;
            int least = 0;
            for (int other = 0; other < baskets.size; other++) {
                if (other != basket) {
                    int steps = steps(baskets, basket, other);
                    if (nearest == NONE || steps < least) {
                        nearest = other;
                        least = steps;
                    }
                }
            }
            return nearest;
        }

        void giveBundles(Hands hands, int n) {
            beginTrying();
            for (int i = 0; i < n; i++) {
                int next = nextToGive(hands);
                if (next != NONE) {
                    load[next]++;
                }
            }
        }

        private int nextToGive(Hands hands) {
            int next = NONE;
            int most = 0;
            for (int hand = 0; hand < hands.size; hand++) {
                int claim = hands.skills[hand] / (load[hand] + 1);
                if (next == NONE || claim > most) {
                    next = hand;
                    most = claim;
                }
            }
            return next;
        }
    }
}
