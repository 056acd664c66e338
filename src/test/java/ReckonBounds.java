/** Boundary cases of promises 37 to 47: what is reckoned. */
final class ReckonBounds {
    private ReckonBounds() {
    }

    private static String plain(int feet, int pays) {
        return Kit.basket(3, 1, "1 1", feet, pays);
    }

    // ---- promise 37

    @Kit.Says(promise = 37, words = "PRICE of FEET: the price (0 to 99)")
    static void theLeastAndTheGreatestPrice() {
        OsierHolt x = Kit.of(plain(1, 99) + ";" + plain(2, 1) + ";" + plain(3, 0));
        Kit.is("99", x.price(1), 99);
        Kit.is("1", x.price(2), 1);
        Kit.is("0", x.price(3), 0);
    }

    @Kit.Says(promise = 37, words = "(of several the least; so 0 without such BASKETS)")
    static void ofSeveralPricesTheLeast() {
        OsierHolt x = Kit.of(plain(1, 30) + ";" + plain(1, 20) + ";" + plain(1, 60) + ";" + plain(2, 20) + ";" + plain(2, 39));
        Kit.is("60 of one, 30 of two, 20 of three", x.price(1), 20);
        Kit.is("20 of two, 39 of one", x.price(2), 20);
        Kit.is("without such baskets", x.price(3), 0);
        Kit.is("without any", new OsierHolt().price(1), 0);
        OsierHolt y = Kit.of(plain(1, 20) + ";" + plain(1, 41));
        Kit.is("20 of two, 41 of one", y.price(1), 41);
    }

    @Kit.Says(promise = 37, words = "`int price(int feet) throws IndexOutOfBoundsException`: PRICE.")
    static void priceOfNoFeet() {
        OsierHolt x = Kit.of(plain(6, 3));
        Kit.is("6", x.price(6), 3);
        Kit.outOfBounds("0", () -> x.price(0));
        Kit.outOfBounds("7", () -> x.price(7));
        Kit.outOfBounds("-1", () -> x.price(-1));
    }

    // ---- promise 38

    @Kit.Says(promise = 38, words = "choices (2 times the cutter's and the river's) from which neither would have more by its other one: as bits")
    static void asMuchByTheOtherOneIsNotMore() {
        OsierHolt x = Kit.of(Kit.bed("osier", 0, 1, 0) + ";" + Kit.bed("osier", 0, 1, 1) + ";" + Kit.bed("osier", 1, 1, 0) + ";"
            + Kit.bed("osier", 9, 1, 9));
        Kit.is("reach 0, damp 0: cutting or waiting at the rising", x.rests(0), 1 + 4);
        Kit.is("reach 0, damp 1", x.rests(1), 1);
        Kit.is("reach 1, damp 0", x.rests(2), 1);
        Kit.is("reach 6, damp 9", x.rests(3), 1);
    }

    @Kit.Says(promise = 38, words = "cutting at the rising he has REACH, the river 1")
    static void reachByTheLaw() {
        OsierHolt x = Kit.of(Kit.bed("osier", 0, 1, 0) + ";" + Kit.bed("osier", 9, 1, 0));
        Kit.law(x, "grow 1 if bed < 1;rot 9 if bed > 0");
        Kit.is("reach 1", x.rests(0), 1);
        Kit.is("reach 0", x.rests(1), 5);
    }

    @Kit.Says(promise = 38, words = "`int rests(int bed) throws IndexOutOfBoundsException`: RESTS, as bits.")
    static void restsOfNoBed() {
        OsierHolt x = Kit.of(Kit.bed("osier", 0, 1, 0));
        Kit.outOfBounds("1", () -> x.rests(1));
        Kit.outOfBounds("-1", () -> x.rests(-1));
    }

    // ---- promise 39

    @Kit.Says(promise = 39, words = "ODDS of N YEARS (0 to 5) and K (0 to 5)")
    static void oddsOfNoneAndOfFive() {
        OsierHolt x = Kit.of("flood 50");
        Kit.is("0 of 0", x.odds(0, 0), 10000);
        Kit.is("1 of 0", x.odds(0, 1), 0);
        Kit.is("5 of 0", x.odds(0, 5), 0);
        Kit.is("0 of 5", x.odds(5, 0), 10000);
        Kit.is("1 of 5", x.odds(5, 1), 9687);
        Kit.is("4 of 5", x.odds(5, 4), 1875);
        Kit.is("5 of 4", x.odds(4, 5), 0);
    }

    @Kit.Says(promise = 39, words = "each by FLOOD, in ten thousandths, rounded down.")
    static void oddsAreRoundedDown() {
        OsierHolt x = Kit.of("flood 50");
        Kit.is("312.5", x.odds(5, 5), 312);
        Kit.holt(x, "flood 1");
        Kit.is("0.000001", x.odds(5, 5), 0);
        Kit.is("1", x.odds(2, 2), 1);
        Kit.is("0.01", x.odds(3, 3), 0);
        Kit.holt(x, "flood 99");
        Kit.is("9999.99", x.odds(3, 1), 9999);
        Kit.is("9999", x.odds(2, 1), 9999);
        Kit.is("9509.9", x.odds(5, 5), 9509);
    }

    @Kit.Says(promise = 39, words = "that there are floods in K of them at least, each by FLOOD")
    static void oddsOfNeverAndAlways() {
        OsierHolt x = new OsierHolt();
        Kit.is("never", x.odds(5, 1), 0);
        Kit.is("0 at least", x.odds(5, 0), 10000);
        Kit.holt(x, "flood 100");
        Kit.is("always", x.odds(5, 5), 10000);
        Kit.is("not more than there are years", x.odds(3, 4), 0);
    }

    @Kit.Says(promise = 39, words = "ODDS. IllegalArgumentException: N or K are none.")
    static void oddsOfNoNumbers() {
        OsierHolt x = new OsierHolt();
        Kit.illegal("6, 0", () -> x.odds(6, 0));
        Kit.illegal("-1, 0", () -> x.odds(-1, 0));
        Kit.illegal("0, 6", () -> x.odds(0, 6));
        Kit.illegal("0, -1", () -> x.odds(0, -1));
        Kit.illegal("the most", () -> x.odds(Integer.MAX_VALUE, Integer.MAX_VALUE));
    }

    // ---- promise 40

    @Kit.Says(promise = 40, words = "(of several the least; none, each)")
    static void mostOfSeveralAndOfNone() {
        OsierHolt x = new OsierHolt();
        for (int what = 0; what < 3; what++) {
            Kit.is("of none, " + what, x.most(what), OsierHolt.NONE);
        }
        Kit.holt(x, "bed osier age 0 stools 1;" + plain(1, 0) + ";" + Kit.hand(1, 0));
        for (int what = 0; what < 3; what++) {
            Kit.is("of one, the least that there is, " + what, x.most(what), 0);
        }
        Kit.holt(x, "bed osier age 9 stools 1;" + plain(1, 9) + ";" + Kit.hand(9, 0) + ";bed osier age 9 stools 2;" + plain(1, 9) + ";"
            + Kit.hand(9, 9));
        for (int what = 0; what < 3; what++) {
            Kit.is("of several, " + what, x.most(what), 1);
        }
    }

    @Kit.Says(promise = 40, words = "OLDEST (what 0), RICHEST (1), ABLEST (2); NONE. NoSuchElementException: another what.")
    static void mostOfAnotherWhat() {
        OsierHolt x = new OsierHolt();
        Kit.noSuch("3", () -> x.most(3));
        Kit.noSuch("-1", () -> x.most(-1));
        Kit.is("2", x.most(2), OsierHolt.NONE);
    }

    // ---- promises 41 to 44

    @Kit.Says(promise = 41, words = "CAN: OPEN ORDERS that could be made up by hand now, as bits.")
    static void canOfTheLastRods() {
        OsierHolt x = Kit.of(plain(1, 0) + ";rods 1 11;rods 2 99;order 0 2;order 0 3;order 0 2");
        Kit.is("11 rods", x.open(true), 1 + 4);
        x.buy(1, 1);
        Kit.is("12 rods, each by itself", x.open(true), 1 + 2 + 4);
        x.drop(0);
        Kit.is("dropped", x.open(true), 2 + 4);
        Kit.is("without hands", x.count(2), 0);
    }

    @Kit.Says(promise = 41, words = "OPEN ORDERS (can false), or CAN, as bits.")
    static void openOfNoneAndOfSix() {
        OsierHolt x = Kit.of(plain(1, 0));
        Kit.is("none", x.open(false) + x.open(true), 0);
        Kit.holt(x, Kit.lines(6, "order 0 1"));
        Kit.is("six", x.open(false), 63);
        Kit.is("without rods", x.open(true), 0);
        for (int order = 0; order < 6; order++) {
            x.drop(order);
        }
        Kit.is("all dropped", x.open(false), 0);
    }

    @Kit.Says(promise = 42, words = "TWINS: pairs of BEDS of like SORT and AGE: how many.")
    static void twinsOfNoneAndOfSix() {
        OsierHolt x = new OsierHolt();
        Kit.is("no beds", x.twins(), 0);
        Kit.holt(x, "bed osier age 3 stools 1");
        Kit.is("one is no pair", x.twins(), 0);
        Kit.holt(x, "bed osier age 4 stools 1;bed purple age 3 stools 1");
        Kit.is("of one sort, of one age", x.twins(), 0);
        Kit.holt(x, "bed purple age 3 stools 9 damp 9");
        Kit.is("stools and damp do not matter", x.twins(), 1);
        Kit.is("six alike", Kit.of(Kit.lines(6, "bed almond age 9 stools 1")).twins(), 15);
    }

    @Kit.Says(promise = 43, words = "there is no such BED, BASKET, hand, ORDER, SORT")
    static void noSuchSort() {
        OsierHolt x = Kit.of("bed almond age 1 stools 1;bed osier age 1 stools 1");
        Kit.is("0", x.sort(0), 2);
        Kit.is("2", x.sort(2), 1);
        Kit.outOfBounds("3", () -> x.sort(3));
        Kit.outOfBounds("-1", () -> x.sort(-1));
    }

    @Kit.Says(promise = 43, words = "OF A SORT: BEDS of it, as bits.")
    static void sortOfNoneAndOfSix() {
        Kit.is("no beds", new OsierHolt().sort(0), 0);
        OsierHolt x = Kit.of(Kit.lines(6, "bed purple age 1 stools 1"));
        Kit.is("none", x.sort(0) + x.sort(2), 0);
        Kit.is("six", x.sort(1), 63);
    }

    @Kit.Says(promise = 44, words = "LENGTHS: FEET of which there are rods, as bits (bit 0 of 1 FOOT).")
    static void lengthsOfNoneAndOfAll() {
        OsierHolt x = new OsierHolt();
        Kit.is("none", x.lengths(), 0);
        Kit.holt(x, "rods 1 1");
        Kit.is("1 foot", x.lengths(), 1);
        Kit.holt(x, "rods 1 0;rods 6 999");
        Kit.is("6 feet", x.lengths(), 32);
        Kit.holt(x, "rods 1 1;rods 2 1;rods 3 1;rods 4 1;rods 5 1");
        Kit.is("all", x.lengths(), 63);
        x.sell(3, 1);
        Kit.is("the last one sold", x.lengths(), 63 - 4);
    }

    // ---- promise 45

    @Kit.Says(promise = 45, words = "AHEAD by N YEARS (0 to 60): as so many YEARS without floods (not WET; no DRAWS).")
    static void aheadByNoneAndBySixty() {
        OsierHolt x = Kit.of("bed osier age 0 stools 99;bed osier age 8 stools 40;bed osier age 9 stools 2");
        int[][] due = {{0, 0, 0, 99}, {0, 8, 8, 99}, {0, 9, 9, 98}, {0, 10, 9, 97}, {0, 60, 9, 47},
            {1, 0, 8, 40}, {1, 1, 9, 39}, {1, 39, 9, 1}, {1, 40, 9, 1}, {1, 60, 9, 1},
            {2, 0, 9, 2}, {2, 1, 9, 1}, {2, 2, 9, 1}};
        for (int[] row : due) {
            Kit.is("age of " + row[0] + " by " + row[1], x.ahead(row[0], row[1], false), row[2]);
            Kit.is("stools of " + row[0] + " by " + row[1], x.ahead(row[0], row[1], true), row[3]);
        }
        Kit.is("nothing stays", x.bed(0, 1) * 1000 + x.bed(0, 2) * 10 + x.count(8), 990);
    }

    @Kit.Says(promise = 45, words = "without floods (not WET; no DRAWS)")
    static void aheadWithoutFloods() {
        OsierHolt x = Kit.of("wet;flood 100;" + Kit.bed("osier", 3, 9, 9));
        Kit.is("age", x.ahead(0, 1, false), 4);
        Kit.is("seed", x.seed(1), 1);
        Kit.is("wet", x.count(9), 1);
    }

    @Kit.Says(promise = 45, words = "AHEAD by N YEARS of a BED: AGE (stools false), or STOOLS. IllegalArgumentException: N is none.")
    static void aheadByNoYears() {
        OsierHolt x = Kit.of("bed osier age 0 stools 99");
        Kit.illegal("61", () -> x.ahead(0, 61, false));
        Kit.illegal("-1", () -> x.ahead(0, -1, true));
        Kit.outOfBounds("bed 1", () -> x.ahead(1, 0, false));
        Kit.outOfBounds("bed -1", () -> x.ahead(-1, 0, true));
        Kit.outOfBounds("bed 1, 61", () -> x.ahead(1, 61, true));
    }

    // ---- promises 46 and 47

    private static OsierHolt shop() {
        return Kit.of(plain(1, 7) + ";rods 1 12;order 0 1;order 0 2;order 0 9;till 20;flood 50;" + Kit.hand(1, 3) + ";"
            + Kit.bed("osier", 9, 9, 9));
    }

    @Kit.Says(promise = 46, words = "TRIAL of N YEARS (0 to 60) from now")
    static void trialOfNoneAndOfSixty() {
        OsierHolt x = shop();
        Kit.is("till in 0", x.trial(0, false), 20);
        Kit.is("open in 0", x.trial(0, true), 7);
        Kit.is("till in 1", x.trial(1, false), 24);
        Kit.is("open in 1", x.trial(1, true), 6);
        Kit.is("till in 8", x.trial(8, false), 3);
        Kit.is("till in 9", x.trial(9, false), 0);
        Kit.is("till in 60", x.trial(60, false), 0);
        Kit.is("open in 60", x.trial(60, true), 6);
    }

    @Kit.Says(promise = 46, words = "(draws, too; nothing stays)")
    static void nothingStaysOfATrial() {
        OsierHolt x = shop();
        x.teach(0);
        x.image();
        String before = Kit.state(x);
        x.trial(60, false);
        x.trial(60, true);
        x.span(60, true);
        Kit.is("state", Kit.state(x), before);
        x.undo();
        Kit.is("the act", x.hand(0, false), 1);
        x.back();
        Kit.is("the image", x.hand(0, false), 2);
    }

    @Kit.Says(promise = 46, words = "TRIAL: TILL (open false), or OPEN ORDERS, as bits. IllegalArgumentException: N is none.")
    static void trialOfNoYears() {
        OsierHolt x = shop();
        Kit.illegal("61", () -> x.trial(61, false));
        Kit.illegal("61", () -> x.trial(61, true));
        Kit.illegal("-1", () -> x.trial(-1, false));
        Kit.illegal("the most", () -> x.trial(Integer.MAX_VALUE, true));
    }

    @Kit.Says(promise = 47, words = "SPAN: the least and the greatest TILL so from SEED 1, 2, .. 6.")
    static void spanOfNoneAndOfSixty() {
        OsierHolt x = shop();
        Kit.is("0", x.span(0, false), 20);
        Kit.is("0", x.span(0, true), 20);
        Kit.is("1", x.span(1, false), 24);
        Kit.is("1", x.span(1, true), 24);
        Kit.is("60", x.span(60, false), 0);
        Kit.is("60", x.span(60, true), 0);
    }

    @Kit.Says(promise = 47, words = "IllegalArgumentException: N is none (0 to 60).")
    static void spanOfNoYears() {
        OsierHolt x = shop();
        Kit.illegal("61", () -> x.span(61, false));
        Kit.illegal("-1", () -> x.span(-1, true));
    }

    @Kit.Says(promise = 47, words = "from SEED 1, 2, .. 6")
    static void theSeedStaysBehindASpan() {
        OsierHolt x = shop();
        x.seed(77);
        x.span(60, true);
        Kit.is("seed", x.seed(1), 77);
    }
}
