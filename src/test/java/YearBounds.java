/** Boundary cases of promise 15: YEARS. From SEED 1 the DRAWS are 16838, 5758, 10113, 17515, 31051 and so on. */
final class YearBounds {
    // a need of 4 rods
    private static final String BASKET = Kit.basket(3, 1, "1 1", 1, 7);

    private YearBounds() {
    }

    /** A holt with 9999 in its TILL. */
    private static OsierHolt rich() {
        OsierHolt x = new OsierHolt();
        for (int k = 0; k < 4; k++) {
            Kit.holt(x, "rods 6 999");
            x.sell(6, 999);
        }
        return x;
    }

    private static void isBed(OsierHolt x, int bed, int age, int stools) {
        Kit.is("age of bed " + bed, x.bed(bed, 1), age);
        Kit.is("stools of bed " + bed, x.bed(bed, 2), stools);
    }

    @Kit.Says(promise = 15, words = "(b) each BED, by numbers:")
    static void eachOfAsManyAsThereMayBe() {
        OsierHolt x = Kit.of(Kit.lines(6, "bed osier age 8 stools 9") + ";" + Kit.lines(5, Kit.hand(1, 2)) + ";rods 1 999",
            BASKET + ";" + Kit.lines(6, "order 0 5"));
        Kit.is("orders", x.years(1), 6);
        for (int bed = 0; bed < 6; bed++) {
            isBed(x, bed, 9, 8);
        }
        Kit.is("till", x.count(7), 50 - 10 + 210);
        Kit.is("store", x.store(1), 999 - 120);
    }

    // ---- how many

    @Kit.Says(promise = 15, words = "So many YEARS more (1 to 60): how many ORDERS were made up in these.")
    static void oneYearAndSixty() {
        OsierHolt x = new OsierHolt();
        x.years(1);
        Kit.is("year", x.count(8), 1);
        x.years(60);
        Kit.is("year", x.count(8), 61);
    }

    @Kit.Says(promise = 15, words = "IllegalArgumentException: they are none.")
    static void noneOrTooManyYears() {
        OsierHolt x = Kit.of("bed osier age 1 stools 1");
        String before = Kit.state(x);
        Kit.illegal("0", () -> x.years(0));
        Kit.illegal("61", () -> x.years(61));
        Kit.illegal("-1", () -> x.years(-1));
        Kit.illegal("the most", () -> x.years(Integer.MAX_VALUE));
        Kit.is("state", Kit.state(x), before);
    }

    @Kit.Says(promise = 15, words = "how many ORDERS were made up in these")
    static void ordersMadeUpInAllTheYears() {
        OsierHolt x = Kit.of(BASKET + ";order 0 1;order 0 1;order 0 1;order 0 2;rods 1 99;till 1;" + Kit.hand(1, 1));
        Kit.is("three in the first year, none in the second", x.years(2), 3);
        Kit.is("none", x.years(2), 0);
        x.teach(0);
        Kit.is("one in three years", x.years(3), 1);
    }

    // ---- (a) floods

    @Kit.Says(promise = 15, words = "(a) it is WET, if DRAW modulo 100 is below FLOOD (the DRAW always), else not")
    static void theDrawIsBelowOrNot() {
        OsierHolt below = Kit.of("flood 39");
        below.years(1);
        Kit.is("38 is below 39", below.count(9), 1);
        OsierHolt not = Kit.of("flood 38");
        not.years(1);
        Kit.is("38 is not below 38", not.count(9), 0);
    }

    @Kit.Says(promise = 15, words = "it is WET, if DRAW modulo 100 is below FLOOD")
    static void neverAndAlways() {
        // of SEED 0 the DRAW is 0
        OsierHolt never = new OsierHolt();
        never.seed(0);
        never.years(1);
        Kit.is("0 is not below 0", never.count(9), 0);
        OsierHolt one = Kit.of("flood 1");
        one.seed(0);
        one.years(1);
        Kit.is("0 is below 1", one.count(9), 1);
        OsierHolt always = Kit.of("flood 100");
        for (int year = 0; year < 12; year++) {
            always.years(1);
            Kit.is("each DRAW is below 100", always.count(9), 1);
        }
    }

    @Kit.Says(promise = 15, words = "else not")
    static void itIsWetNoMore() {
        OsierHolt x = Kit.of("wet;flood 38");
        x.years(1);
        Kit.is("wet", x.count(9), 0);
        OsierHolt y = Kit.of("wet");
        y.years(1);
        Kit.is("without floods", y.count(9), 0);
    }

    @Kit.Says(promise = 15, words = "(the DRAW always)")
    static void drawsWithoutFloods() {
        OsierHolt x = new OsierHolt();
        x.years(1);
        Kit.is("seed", x.seed(1), 1103527590);
        x.years(3);
        Kit.holt(x, "flood 16");
        // the fourth one is 17515
        x.years(1);
        Kit.is("15 is below 16", x.count(9), 1);
        OsierHolt y = new OsierHolt();
        y.years(3);
        Kit.holt(y, "flood 15");
        y.years(1);
        Kit.is("15 is not below 15", y.count(9), 0);
    }

    @Kit.Says(promise = 15, words = "DRAW: SEED is 1103515245 times SEED and 12345, as an int that goes round; bits 16 to 30 (SEED 1 at first).")
    static void theSeedGoesRound() {
        OsierHolt x = new OsierHolt();
        x.seed(2);
        x.years(1);
        Kit.is("2207042835 goes round", x.seed(Integer.MAX_VALUE), -2087924461);
        x.years(1);
        Kit.is("of the greatest", x.seed(Integer.MIN_VALUE), 1043980748);
        x.years(1);
        Kit.is("of the least", x.seed(-1), -2147471303);
        x.years(1);
        Kit.is("of -1", x.seed(1), -1103502900);
    }

    @Kit.Says(promise = 15, words = "bits 16 to 30")
    static void bit31IsNotDrawn() {
        // of SEED 2 the next one is 0x838ccd13: bits 16 to 30 are 0x38c, that is 908
        OsierHolt not = Kit.of("flood 8");
        not.seed(2);
        not.years(1);
        Kit.is("8 is not below 8", not.count(9), 0);
        OsierHolt below = Kit.of("flood 9");
        below.seed(2);
        below.years(1);
        Kit.is("8 is below 9", below.count(9), 1);
    }

    // ---- (b) beds

    @Kit.Says(promise = 15, words = "(b) each BED, by numbers: AGE is 1 more (9 at most)")
    static void agesAre9AtMost() {
        OsierHolt x = Kit.of("bed osier age 0 stools 50;bed osier age 8 stools 50;bed osier age 9 stools 50");
        x.years(1);
        isBed(x, 0, 1, 50);
        isBed(x, 1, 9, 49);
        isBed(x, 2, 9, 49);
        x.years(60);
        Kit.is("age", x.bed(0, 1), 9);
    }

    @Kit.Says(promise = 15, words = "but not, if it is WET and its DAMP is 5 at least")
    static void dampBedsInAFlood() {
        OsierHolt x = Kit.of("flood 100;" + Kit.bed("osier", 1, 9, 4) + ";" + Kit.bed("osier", 1, 9, 5) + ";"
            + Kit.bed("osier", 1, 9, 9));
        x.years(1);
        isBed(x, 0, 2, 9);
        isBed(x, 1, 1, 9);
        isBed(x, 2, 1, 9);
    }

    @Kit.Says(promise = 15, words = "if it is WET and its DAMP is 5 at least")
    static void dampBedsWithoutAFlood() {
        // it was wet, but is not in this year
        OsierHolt x = Kit.of("wet;" + Kit.bed("osier", 1, 9, 5) + ";" + Kit.bed("osier", 1, 9, 9));
        x.years(1);
        isBed(x, 0, 2, 9);
        isBed(x, 1, 2, 9);
    }

    @Kit.Says(promise = 15, words = "one whose AGE is 9 then has 1 STOOL less (1 at least);")
    static void oldBedsLoseStools() {
        OsierHolt x = Kit.of("bed osier age 7 stools 5;bed osier age 8 stools 5;bed osier age 9 stools 1;bed osier age 9 stools 2");
        x.years(1);
        isBed(x, 0, 8, 5);
        isBed(x, 1, 9, 4);
        isBed(x, 2, 9, 1);
        isBed(x, 3, 9, 1);
        x.years(1);
        isBed(x, 0, 9, 4);
        isBed(x, 3, 9, 1);
    }

    @Kit.Says(promise = 15, words = "one whose AGE is 9 then has 1 STOOL less")
    static void oldDampBedsInAFlood() {
        OsierHolt x = Kit.of("flood 100;" + Kit.bed("osier", 9, 5, 9) + ";" + Kit.bed("osier", 8, 5, 9));
        x.years(1);
        isBed(x, 0, 9, 4);
        isBed(x, 1, 8, 5);
    }

    // ---- (c) hands

    @Kit.Says(promise = 15, words = "(c) each hand, by numbers: TILL is WAGE less, if it is so much at least")
    static void aWageOfTheWholeTill() {
        OsierHolt x = Kit.of("till 9;" + Kit.hand(1, 9));
        x.years(1);
        Kit.is("9 of 9", x.count(7), 0);
        OsierHolt y = Kit.of("till 8;" + Kit.hand(1, 9));
        y.years(1);
        Kit.is("9 of 8", y.count(7), 8);
        OsierHolt z = Kit.of("till 0;" + BASKET + ";order 0 1;rods 1 4;" + Kit.hand(1, 0));
        Kit.is("a hand without a wage works for an empty till", z.years(1), 1);
    }

    @Kit.Says(promise = 15, words = "one for which it is too little does not, and the next one is asked")
    static void theNextHandIsAsked() {
        String holt = "till 10;" + Kit.hand(9, 11) + ";" + Kit.hand(2, 6) + ";" + Kit.hand(9, 5) + ";" + Kit.hand(3, 4) + ";" + BASKET
            + ";rods 1 99";
        OsierHolt five = Kit.of(holt + ";order 0 5");
        Kit.is("2 and 3 work", five.years(1), 1);
        Kit.is("till", five.count(7), 35);
        OsierHolt six = Kit.of(holt + ";order 0 6");
        Kit.is("no others", six.years(1), 0);
        Kit.is("till", six.count(7), 0);
    }

    @Kit.Says(promise = 15, words = "(c) each hand, by numbers: TILL is WAGE less")
    static void handsArePaidAheadOfOrders() {
        OsierHolt x = Kit.of("till 6;" + Kit.hand(1, 6) + ";" + Kit.hand(9, 7) + ";" + BASKET + ";rods 1 8;order 0 1;order 0 2");
        Kit.is("what an order pays comes too late", x.years(1), 1);
        Kit.is("till", x.count(7), 7);
        Kit.is("the next year, again by numbers", x.years(1), 0);
        Kit.is("till", x.count(7), 1);
    }

    // ---- (d) orders

    @Kit.Says(promise = 15, words = "(d) each ORDER, by numbers, that is OPEN: if SKILLS of hands that work are together MANY at least")
    static void skillsThatAreJustEnough() {
        String holt = BASKET + ";rods 1 99;" + Kit.hand(2, 0) + ";" + Kit.hand(3, 0);
        Kit.is("5 of 5", Kit.of(holt + ";order 0 5").years(1), 1);
        Kit.is("5 of 6", Kit.of(holt + ";order 0 6").years(1), 0);
        Kit.is("no hand", Kit.of(BASKET + ";rods 1 99;order 0 1").years(1), 0);
    }

    @Kit.Says(promise = 15, words = "and the STORE has MANY times NEED rods of its FEET")
    static void rodsThatAreJustEnough() {
        String holt = BASKET + ";order 0 3;" + Kit.hand(9, 0);
        OsierHolt x = Kit.of(holt + ";rods 1 12");
        Kit.is("12 of 12", x.years(1), 1);
        Kit.is("used", x.store(1), 0);
        OsierHolt y = Kit.of(holt + ";rods 1 11;rods 2 99");
        Kit.is("11 of 12", y.years(1), 0);
        Kit.is("not used", y.store(1), 11);
    }

    @Kit.Says(promise = 15, words = "(each ORDER by itself: SKILLS are not used up)")
    static void skillsAreNotUsedUp() {
        OsierHolt x = Kit.of(BASKET + ";rods 1 99;" + Kit.hand(2, 0) + ";" + Kit.lines(6, "order 0 2"));
        Kit.is("all of them", x.years(1), 6);
        Kit.is("store", x.store(1), 99 - 48);
    }

    @Kit.Says(promise = 15, words = "(d) each ORDER, by numbers, that is OPEN")
    static void ordersByNumbers() {
        OsierHolt x = Kit.of(BASKET + ";rods 1 12;" + Kit.hand(9, 0) + ";order 0 4;order 0 2;order 0 2;order 0 1;order 0 1");
        x.drop(3);
        Kit.is("16 are too many, 8 are used, 8 are too many then, dropped, 4", x.years(1), 2);
        Kit.is("open", x.open(false), 1 + 4);
    }

    @Kit.Says(promise = 15, words = "it is OPEN no more")
    static void madeUpButOnce() {
        OsierHolt x = Kit.of(BASKET + ";rods 1 99;" + Kit.hand(9, 0) + ";order 0 1");
        Kit.is("once", x.years(60), 1);
        Kit.is("store", x.store(1), 95);
    }

    @Kit.Says(promise = 15, words = "TILL is MANY times PAYS more (9999 at most)")
    static void tillIs9999AtMostByAYear() {
        OsierHolt x = rich();
        x.buy(1, 9);
        Kit.holt(x, BASKET + ";rods 1 99;" + Kit.hand(9, 0) + ";order 0 1;order 0 1");
        x.drop(1);
        x.years(1);
        Kit.is("9990 and 7", x.count(7), 9997);
        x.take(0, 1);
        x.years(1);
        Kit.is("9997 and 7", x.count(7), 9999);
    }

    @Kit.Says(promise = 15, words = "YEAR is 1 more (9999 at most).")
    static void theYearIs9999AtMost() {
        OsierHolt x = Kit.of("year 999");
        for (int k = 0; k < 149; k++) {
            x.years(60);
        }
        x.years(59);
        Kit.is("year", x.count(8), 9998);
        x.years(1);
        Kit.is("year", x.count(8), 9999);
        x.years(1);
        Kit.is("year", x.count(8), 9999);
        x.years(60);
        Kit.is("year", x.count(8), 9999);
    }
}
