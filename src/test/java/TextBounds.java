/** Boundary cases of promises 1 to 4 and 6: a new object, the TAPE, texts of THE HOLT. */
final class TextBounds {
    private static final String BED = Kit.bed("osier", 1, 1, 0);
    private static final String BASKET = Kit.basket(3, 1, "1 1", 1, 0);
    private static final String HAND = Kit.hand(1, 0);

    private TextBounds() {
    }

    // ---- promise 1

    @Kit.Says(promise = 1, words = "A holt without BEDS.")
    static void aNewHoltHasNoBeds() {
        OsierHolt x = new OsierHolt();
        Kit.is("beds", x.count(0), 0);
        Kit.outOfBounds("bed 0", () -> x.bed(0, 0));
    }

    @Kit.Says(promise = 1, words = "STORE: how many rods of 1 to 6 FEET each, 0 to 9999 (0 at first).")
    static void aNewStoreIsEmpty() {
        OsierHolt x = new OsierHolt();
        for (int feet = 1; feet <= 6; feet++) {
            Kit.is("store(" + feet + ")", x.store(feet), 0);
        }
    }

    @Kit.Says(promise = 1, words = "FLOOD 0 to 100 (0 at first).")
    static void aNewHoltHasNoFloods() {
        Kit.is("flood", new OsierHolt().count(6), 0);
    }

    @Kit.Says(promise = 1, words = "TILL 0 to 9999 (50 at first).")
    static void aNewTillHas50() {
        Kit.is("till", new OsierHolt().count(7), 50);
    }

    @Kit.Says(promise = 1, words = "YEAR 0 to 9999 (0 at first).")
    static void aNewHoltIsInYear0() {
        Kit.is("year", new OsierHolt().count(8), 0);
    }

    @Kit.Says(promise = 1, words = "WET or not (not at first)")
    static void aNewHoltIsNotWet() {
        Kit.is("wet", new OsierHolt().count(9), 0);
    }

    @Kit.Says(promise = 1, words = "(SEED 1 at first)")
    static void aNewSeedIs1() {
        Kit.is("seed", new OsierHolt().seed(7), 1);
    }

    @Kit.Says(promise = 1, words = "public static final int NONE = -1;")
    static void noneIsBelow0() {
        Kit.is("NONE", OsierHolt.NONE, -1);
    }

    @Kit.Says(promise = 1, words = "`OsierHolt()`: A holt without BEDS.")
    static void aNewHoltHasNothingElse() {
        OsierHolt x = new OsierHolt();
        Kit.is("baskets, hands, orders, texts", x.count(1) + x.count(2) + x.count(3) + x.count(4), 0);
        Kit.is("rows, acts", x.count(10) + x.count(11), 0);
        Kit.is("law", x.count(5), OsierHolt.NONE);
        Kit.is("tape", x.feed(0, 0, 0, 0, 0), 20);
    }

    // ---- promises 2 and 3

    @Kit.Says(promise = 2, words = "Twenty bytes come behind the TAPE")
    static void bytesComeBehindWhatIsThere() {
        OsierHolt x = new OsierHolt();
        Kit.feed(x, "we");
        Kit.is("feed", x.feed(0x743b7965, 0x61722039, 0, 0, 0), 22);
        x.end(10);
        x.holt();
        Kit.is("wet;year 9", x.count(9) * 10 + x.count(8), 19);
    }

    @Kit.Says(promise = 2, words = "of each number the highest first")
    static void theHighestByteIsTheFirst() {
        OsierHolt x = new OsierHolt();
        x.feed(0x00000077, 0x65740000, 0, 0, 0);
        x.end(6);
        Kit.illegal("three bytes 0 ahead of wet", x::holt);
        Kit.is("fault", x.fault(), 0);
        x.feed(0x20202077, 0x65740000, 0, 0, 0);
        x.end(6);
        x.holt();
        Kit.is("three blanks ahead of wet", x.count(9), 1);
    }

    @Kit.Says(promise = 2, words = "Twenty bytes come behind the TAPE, of each number the highest first: how many it has")
    static void aNumberBelow0HasFourBytesToo() {
        OsierHolt x = new OsierHolt();
        Kit.is("feed", x.feed(0x20202020, -1, -1, -1, -1), 20);
        Kit.illegal("bytes 255", x::holt);
        Kit.is("fault", x.fault(), 4);
        x.feed(-1, 0, 0, 0, 0);
        x.end(1);
        Kit.illegal("255 is no length", () -> x.pieces(6));
    }

    @Kit.Says(promise = 2, words = "NONE, and none come, if it would have more than 400.")
    static void theTapeHas400BytesAtMost() {
        OsierHolt x = new OsierHolt();
        for (int many = 20; many <= 400; many += 20) {
            Kit.is("feed", x.feed(0x20202020, 0x20202020, 0x20202020, 0x20202020, 0x20202020), many);
        }
        Kit.is("20 more", x.feed(0, 0, 0, 0, 0), OsierHolt.NONE);
        Kit.is("none came", x.end(401), false);
        Kit.is("400 blanks", x.holt(), 1);
    }

    @Kit.Says(promise = 2, words = "if it would have more than 400")
    static void feed401DoesNotComeInPart() {
        OsierHolt x = new OsierHolt();
        Kit.feed(x, " ".repeat(381));
        Kit.is("381 and 20", x.feed(0, 0, 0, 0, 0), OsierHolt.NONE);
        Kit.is("none came", x.end(382), false);
        Kit.is("381 are there", x.end(381), true);
        Kit.is("380 are there", x.end(380), true);
        Kit.is("380 and 20", x.feed(0x20202020, 0x20202020, 0x20202020, 0x20202020, 0x20202020), 400);
        Kit.is("blanks", x.holt(), 1);
    }

    @Kit.Says(promise = 3, words = "The TAPE has its first n bytes alone: true")
    static void theFirstBytesStay() {
        OsierHolt x = new OsierHolt();
        Kit.feed(x, "year 12345");
        Kit.is("end", x.end(7), true);
        x.holt();
        Kit.is("year", x.count(8), 12);
    }

    @Kit.Says(promise = 3, words = "The TAPE has its first n bytes alone")
    static void whatWasBehindTheEndIsGone() {
        OsierHolt x = Kit.of("bed osier age 1 stools 1");
        Kit.feed(x, "wet");
        x.end(2);
        Kit.illegal("we", x::holt);
        Kit.is("fault", x.fault(), 0);
        Kit.feed(x, "wet;wet");
        x.end(3);
        Kit.is("wet", x.holt(), 2);
        Kit.feed(x, "dear 1 if age<1+2");
        x.end(15);
        Kit.is("age<1", x.law(), 1);
        Kit.is("it does not hold", x.bed(0, 6), 5);
        Kit.feed(x, "dear 12");
        x.end(6);
        Kit.is("dear 1", x.law(), 1);
        Kit.is("cost", x.bed(0, 6), 6);
    }

    @Kit.Says(promise = 3, words = "false, and nothing happens, if it has fewer")
    static void endBeyondTheTape() {
        OsierHolt x = new OsierHolt();
        Kit.is("of an empty tape", x.end(1), false);
        Kit.feed(x, "wet");
        Kit.is("end", x.end(4), false);
        Kit.is("end of them all", x.end(Integer.MAX_VALUE), false);
        x.holt();
        Kit.is("nothing happens", x.count(9), 1);
    }

    @Kit.Says(promise = 3, words = "The TAPE has its first n bytes alone: true; false, and nothing happens, if it has fewer")
    static void endWithJustSoMany() {
        OsierHolt x = new OsierHolt();
        Kit.is("0 of none", x.end(0), true);
        Kit.feed(x, "wet");
        Kit.is("3 of 3", x.end(3), true);
        x.holt();
        Kit.is("all stay", x.count(9), 1);
        Kit.feed(x, "wet");
        Kit.is("0 of 3", x.end(0), true);
        Kit.is("none stay", x.end(1), false);
    }

    @Kit.Says(promise = 3, words = "or n is below 0")
    static void endBelow0() {
        OsierHolt x = new OsierHolt();
        Kit.feed(x, "wet");
        Kit.is("-1", x.end(-1), false);
        Kit.is("the least", x.end(Integer.MIN_VALUE), false);
        x.holt();
        Kit.is("nothing happens", x.count(9), 1);
    }

    // ---- promise 4: how many there may be

    @Kit.Says(promise = 4, words = "BEDS (at most 6, numbered from 0 on)")
    static void aSeventhBed() {
        OsierHolt x = Kit.of(Kit.lines(6, BED));
        Kit.is("beds", x.count(0), 6);
        Kit.wrongHolt(x, "wet; ^" + BED);
        Kit.wrongHolt(Kit.lines(6, BED) + ";^" + BED);
        Kit.is("beds", x.count(0), 6);
        Kit.outOfBounds("bed 6", () -> x.bed(6, 0));
    }

    @Kit.Says(promise = 4, words = "BASKETS (at most 5, numbered from 0 on)")
    static void aSixthBasket() {
        OsierHolt x = Kit.of(Kit.lines(5, BASKET));
        Kit.is("baskets", x.count(1), 5);
        Kit.wrongHolt(x, "wet; ^" + BASKET);
        Kit.wrongHolt(Kit.lines(5, BASKET) + ";^" + BASKET);
        Kit.is("baskets", x.count(1), 5);
    }

    @Kit.Says(promise = 4, words = "HANDS (at most 5, numbered from 0 on)")
    static void aSixthHand() {
        OsierHolt x = Kit.of(Kit.lines(5, HAND));
        Kit.is("hands", x.count(2), 5);
        Kit.wrongHolt(x, "wet; ^" + HAND);
        Kit.wrongHolt(Kit.lines(5, HAND) + ";^" + HAND);
        OsierHolt hired = Kit.of(Kit.lines(4, HAND));
        hired.hire(1, 1);
        Kit.wrongHolt(hired, "^" + HAND);
    }

    @Kit.Says(promise = 4, words = "ORDERS (at most 6, numbered from 0 on)")
    static void aSeventhOrder() {
        OsierHolt x = Kit.of(BASKET + ";" + Kit.lines(6, "order 0 1"));
        Kit.is("orders", x.count(3), 6);
        Kit.wrongHolt(x, "wet; ^order 0 1");
        Kit.wrongHolt(BASKET + ";" + Kit.lines(6, "order 0 1") + ";^order 0 1");
        x.drop(0);
        Kit.wrongHolt(x, "^order 0 1");
    }

    @Kit.Says(promise = 4, words = "THE HOLT is told in texts (at most 12, one behind another)")
    static void twelveTexts() {
        OsierHolt x = new OsierHolt();
        for (int text = 1; text <= 12; text++) {
            Kit.is("texts", Kit.holt(x, "year " + text), text);
        }
        Kit.is("count", x.count(4), 12);
        Kit.is("the last one was read", x.count(8), 12);
    }

    @Kit.Says(promise = 4, words = "UnsupportedOperationException: there are 12.")
    static void aThirteenthText() {
        OsierHolt x = new OsierHolt();
        for (int text = 1; text <= 12; text++) {
            Kit.holt(x, "");
        }
        Kit.fails("a 13th", UnsupportedOperationException.class, () -> Kit.holt(x, "year 7"));
        Kit.is("it does nothing", x.count(8) + x.count(4), 12);
        Kit.is("the tape is used up", x.end(1), false);
        Kit.fails("a 13th of no line", UnsupportedOperationException.class, () -> Kit.holt(x, ""));
        Kit.is("a law may come", Kit.law(x, "grow 1"), 1);
    }

    @Kit.Says(promise = 4, words = "IllegalArgumentException: it is wrong; UnsupportedOperationException: there are 12.")
    static void aWrongThirteenthTextIsWrong() {
        OsierHolt x = new OsierHolt();
        for (int text = 1; text <= 12; text++) {
            Kit.holt(x, "");
        }
        Kit.illegal("a wrong 13th", () -> Kit.holt(x, "year"));
        Kit.is("fault", x.fault(), 4);
    }

    @Kit.Says(promise = 4, words = "Uses the TAPE up: a text of THE HOLT: how many there are.")
    static void theTapeIsUsedUp() {
        OsierHolt x = new OsierHolt();
        Kit.is("the first text", Kit.holt(x, "wet"), 1);
        Kit.is("used up by a right one", x.end(1), false);
        Kit.illegal("a wrong text", () -> Kit.holt(x, "wet;oops;wet"));
        Kit.is("used up by a wrong one", x.end(1), false);
        Kit.is("an empty tape is a text, too", x.holt(), 2);
    }

    @Kit.Says(promise = 4, words = "between all there may be blanks (32)")
    static void aTextOf400Bytes() {
        OsierHolt x = Kit.of("wet;" + " ".repeat(390) + "year 9");
        Kit.is("to its last byte", x.count(8), 9);
        Kit.wrongHolt("wet;" + " ".repeat(390) + "^years ");
        Kit.wrongHolt("wet;" + " ".repeat(396) + "^");
        OsierHolt y = new OsierHolt();
        Kit.feed(y, "dear 1 if age" + "+1".repeat(192) + "<2 ");
        Kit.is("a law of 400 bytes", y.law(), 1);
        Kit.wrongLaw("dear 1 if age" + "+1".repeat(193) + "^");
    }

    @Kit.Says(promise = 4, words = "LINE { ; LINE }, at most 14: bed")
    static void fourteenLines() {
        Kit.rightHolt(Kit.lines(14, "wet"));
        Kit.wrongHolt(Kit.lines(14, "wet") + ";^wet");
        Kit.wrongHolt(Kit.lines(14, "wet") + " ;  ^wet ; wet");
    }

    @Kit.Says(promise = 4, words = "Of a wrong text nothing stays.")
    static void nothingStaysOfAWrongText() {
        OsierHolt x = Kit.of(BED + ";" + BASKET + ";" + HAND + ";order 0 1;rods 1 5;flood 9;till 9;year 9");
        x.hire(2, 2);
        String before = Kit.state(x);
        Kit.wrongHolt(x, BED + ";" + BASKET + ";" + HAND + ";order 0 1;rods 1 6;flood 8;till 8;year 8;wet;^oops");
        Kit.is("state", Kit.state(x), before);
        Kit.is("the tape is used up", x.end(1), false);
    }

    // ---- promise 4: numbers and their bounds

    @Kit.Says(promise = 4, words = "AGE 0 to 9 (years since it was cut)")
    static void agesOfBeds() {
        OsierHolt x = Kit.of("bed osier age 0 stools 1;bed osier age 9 stools 1");
        Kit.is("ages", x.bed(0, 1) * 10 + x.bed(1, 1), 9);
        Kit.wrongHolt("bed osier age ^10 stools 1");
    }

    @Kit.Says(promise = 4, words = "STOOLS 1 to 99")
    static void stoolsOfBeds() {
        OsierHolt x = Kit.of("bed osier age 1 stools 1;bed osier age 1 stools 99");
        Kit.is("stools", x.bed(0, 2) * 100 + x.bed(1, 2), 199);
        Kit.wrongHolt("bed osier age 1 stools ^0");
        Kit.wrongHolt("bed osier age 1 stools ^100");
    }

    @Kit.Says(promise = 4, words = "DAMP 0 to 9 (0 at first)")
    static void dampOfBeds() {
        OsierHolt x = Kit.of("bed osier age 1 stools 1;bed osier age 1 stools 1 damp 9;bed osier age 1 stools 1 damp 0");
        Kit.is("damp", x.bed(0, 3) * 100 + x.bed(1, 3) * 10 + x.bed(2, 3), 90);
        Kit.wrongHolt("bed osier age 1 stools 1 damp ^10");
    }

    @Kit.Says(promise = 4, words = "bed S age N stools N [ damp N ]")
    static void dampMayBeToldOrNot() {
        Kit.rightHolt("bed osier age 1 stools 1;wet");
        Kit.wrongHolt("bed osier age 1 stools 1 damp ^;wet");
        Kit.wrongHolt("bed osier age 1 stools 1 damp 1 ^damp 1");
        Kit.wrongHolt("bed osier age 1 ^damp 1");
    }

    @Kit.Says(promise = 4, words = "(S: osier, purple, almond;")
    static void sortsOfBeds() {
        OsierHolt x = Kit.of("bed osier age 1 stools 1;bed purple age 1 stools 1;bed almond age 1 stools 1");
        Kit.is("sorts", x.bed(0, 0) * 100 + x.bed(1, 0) * 10 + x.bed(2, 0), 12);
        Kit.wrongHolt("bed ^oak age 1 stools 1");
        Kit.wrongHolt("bed ^age 1 stools 1");
        Kit.wrongHolt("bed ^0 age 1 stools 1");
    }

    @Kit.Says(promise = 4, words = "STAKES 3 to 24")
    static void stakesOfBaskets() {
        OsierHolt x = Kit.of(Kit.basket(3, 1, "1 1", 1, 0) + ";" + Kit.basket(24, 1, "1 1", 1, 0));
        Kit.is("stakes", x.basket(0, 0) * 100 + x.basket(1, 0), 324);
        Kit.wrongHolt("basket stakes ^2 rounds 1");
        Kit.wrongHolt("basket stakes ^25 rounds 1");
    }

    @Kit.Says(promise = 4, words = "ROUNDS 1 to 20")
    static void roundsOfBaskets() {
        OsierHolt x = Kit.of(Kit.basket(3, 1, "1 1", 1, 0) + ";" + Kit.basket(3, 20, "1 1", 1, 0));
        Kit.is("rounds", x.basket(0, 1) * 100 + x.basket(1, 1), 120);
        Kit.wrongHolt("basket stakes 3 rounds ^0 weave 1 1");
        Kit.wrongHolt("basket stakes 3 rounds ^21 weave 1 1");
    }

    @Kit.Says(promise = 4, words = "WEAVE: two, four or six RUNS of 1 to 4")
    static void runsOfBaskets() {
        OsierHolt x = Kit.of(Kit.basket(3, 1, "1 4", 1, 0) + ";" + Kit.basket(3, 1, "4 1 4 1", 1, 0) + ";"
            + Kit.basket(3, 1, "4 4 4 4 4 4", 1, 0));
        Kit.is("runs", x.run(0, 0) * 1000 + x.run(0, 1) * 100 + x.run(1, 3) * 10 + x.run(2, 5), 1414);
        Kit.wrongHolt("basket stakes 3 rounds 1 weave ^0 1 feet 1 pays 0");
        Kit.wrongHolt("basket stakes 3 rounds 1 weave 1 ^5 feet 1 pays 0");
        Kit.wrongHolt("basket stakes 3 rounds 1 weave 1 1 ^5 1 feet 1 pays 0");
        Kit.wrongHolt("basket stakes 3 rounds 1 weave 1 1 1 1 1 ^0 feet 1 pays 0");
        Kit.wrongHolt("basket stakes 3 rounds 1 weave ^feet 1 pays 0");
        Kit.wrongHolt("basket stakes 3 rounds 1 weave 1 ^feet 1 pays 0");
    }

    @Kit.Says(promise = 4, words = "weave: at most six RUNS, else it is wrong at the 7th one")
    static void aSeventhRun() {
        Kit.wrongHolt("basket stakes 3 rounds 1 weave 1 2 3 4 1 2 ^3 4 feet 1 pays 0");
        Kit.wrongHolt("basket stakes 3 rounds 1 weave 1 2 3 4 1 2 ^9999");
        Kit.wrongHolt("basket stakes 3 rounds 1 weave 1 2 3 4 1 2 ^");
    }

    @Kit.Says(promise = 4, words = "behind a third or a fifth one another one must come")
    static void aThirdAndAFifthRunAlone() {
        Kit.wrongHolt("basket stakes 3 rounds 1 weave 1 1 1 ^feet 1 pays 0");
        Kit.wrongHolt("basket stakes 3 rounds 1 weave 1 1 1 1 1 ^feet 1 pays 0");
        Kit.wrongHolt("basket stakes 3 rounds 1 weave 1 1 1^");
        Kit.wrongHolt("basket stakes 3 rounds 1 weave 1 1 1 1 1 ^;wet");
    }

    @Kit.Says(promise = 4, words = "FEET 1 to 6, PAYS 0 to 99. HANDS")
    static void feetAndPaysOfBaskets() {
        OsierHolt x = Kit.of(Kit.basket(3, 1, "1 1", 1, 0) + ";" + Kit.basket(3, 1, "1 1", 6, 99));
        Kit.is("feet", x.basket(0, 2) * 10 + x.basket(1, 2), 16);
        Kit.is("pays", x.basket(0, 3) * 100 + x.basket(1, 3), 99);
        Kit.wrongHolt("basket stakes 3 rounds 1 weave 1 1 feet ^0 pays 0");
        Kit.wrongHolt("basket stakes 3 rounds 1 weave 1 1 feet ^7 pays 0");
        Kit.wrongHolt("basket stakes 3 rounds 1 weave 1 1 feet 6 pays ^100");
    }

    @Kit.Says(promise = 4, words = "SKILL 1 to 9, WAGE 0 to 99. ORDERS")
    static void skillsAndWagesOfHands() {
        OsierHolt x = Kit.of("hand skill 1 wage 99;hand skill 9 wage 0");
        Kit.is("skills", x.hand(0, false) * 10 + x.hand(1, false), 19);
        Kit.is("wages", x.hand(0, true) * 10 + x.hand(1, true), 990);
        Kit.wrongHolt("hand skill ^0 wage 1");
        Kit.wrongHolt("hand skill ^10 wage 1");
        Kit.wrongHolt("hand skill 9 wage ^100");
    }

    @Kit.Says(promise = 4, words = "MANY 1 to 9, OPEN (at first) or not")
    static void manyOfOrders() {
        OsierHolt x = Kit.of(BASKET + ";order 0 1;order 0 9");
        Kit.is("many", x.order(0, 1) * 10 + x.order(1, 1), 19);
        Kit.is("open", x.open(false), 3);
        Kit.wrongHolt(BASKET + ";order 0 ^0");
        Kit.wrongHolt(BASKET + ";order 0 ^10");
    }

    @Kit.Says(promise = 4, words = "order: a BASKET that there is by then, and MANY")
    static void ordersOfBasketsThereAre() {
        Kit.wrongHolt("order ^0 1");
        Kit.wrongHolt("order ^0 1;" + BASKET);
        Kit.rightHolt(BASKET + ";order 0 1");
        Kit.wrongHolt(BASKET + ";order ^1 1;" + BASKET);
        Kit.rightHolt(BASKET + ";order 0 1;" + BASKET + ";order 1 1");
        OsierHolt x = Kit.of(BASKET, BASKET + ";order 1 2");
        Kit.is("a basket of a text before", x.order(0, 0), 1);
    }

    @Kit.Says(promise = 4, words = "FLOOD 0 to 100")
    static void floods() {
        OsierHolt x = Kit.of("flood 100");
        Kit.is("flood", x.count(6), 100);
        Kit.holt(x, "flood 0");
        Kit.is("flood", x.count(6), 0);
        Kit.wrongHolt("flood ^101");
    }

    @Kit.Says(promise = 4, words = "till, year 0 to 999.)")
    static void tillAndYearOfTexts() {
        OsierHolt x = Kit.of("till 999;year 999");
        Kit.is("till", x.count(7), 999);
        Kit.is("year", x.count(8), 999);
        Kit.holt(x, "till 0;year 0");
        Kit.is("0", x.count(7) + x.count(8), 0);
        Kit.wrongHolt("till ^1000");
        Kit.wrongHolt("year ^1000");
    }

    @Kit.Says(promise = 4, words = "rods: FEET, and how many there are then, 0 to 999")
    static void rodsOfTexts() {
        OsierHolt x = Kit.of("rods 1 999;rods 6 999;rods 1 0;rods 6 7");
        Kit.is("0 then", x.store(1), 0);
        Kit.is("7 then, not 7 more", x.store(6), 7);
        Kit.wrongHolt("rods ^0 1");
        Kit.wrongHolt("rods ^7 1");
        Kit.wrongHolt("rods 1 ^1000");
        Kit.wrongHolt("rods 1 ^;wet");
    }

    @Kit.Says(promise = 4, words = "Numbers are of 1 to 3 digits.")
    static void digitsOfNumbers() {
        OsierHolt x = Kit.of("till 007;year 7;flood 070");
        Kit.is("numbers", x.count(7) * 10000 + x.count(8) * 1000 + x.count(6), 77070);
        Kit.wrongHolt("till ^0007");
        Kit.wrongHolt("till ^0000");
        Kit.wrongHolt("till ^99999999999999999999");
        Kit.wrongHolt("till ^4294967297");
        Kit.wrongHolt("till ^");
        Kit.wrongHolt("till ^-1");
    }

    // ---- promise 4: words and blanks

    @Kit.Says(promise = 4, words = "Words are as long as a to z go on")
    static void wordsGoOn() {
        Kit.wrongHolt("^weta");
        Kit.wrongHolt("^wetz");
        Kit.wrongHolt("^we");
        Kit.wrongHolt("^bedosier age 1 stools 1");
        Kit.wrongHolt("wet^`");
        Kit.wrongHolt("wet^{");
        Kit.wrongHolt("wet^A");
        Kit.wrongHolt("wet^1");
        Kit.wrongHolt("^Wet");
    }

    @Kit.Says(promise = 4, words = "between all there may be blanks (32), also ahead and behind")
    static void blanksMayBeBetweenAll() {
        Kit.rightHolt("   wet   ;   till   5   ");
        Kit.rightHolt("bed osier age1stools1damp1;till5;rods 1 2");
        Kit.wrongHolt("wet^\t");
        Kit.wrongHolt("^\nwet");
        Kit.wrongHolt("wet^\u00a0");
        Kit.wrongHolt("wet;^\u0000wet");
    }

    @Kit.Says(promise = 4, words = "A text that is empty, or blanks alone, has no LINE.")
    static void aTextWithoutLines() {
        OsierHolt x = Kit.of(BED);
        String before = Kit.state(x);
        Kit.is("an empty one", Kit.holt(x, ""), 2);
        Kit.is("a blank", Kit.holt(x, " "), 3);
        Kit.is("fault", x.fault(), OsierHolt.NONE);
        Kit.is("nothing else", Kit.state(x), before.replaceFirst("1 0 0 0 1", "1 0 0 0 3"));
        Kit.wrongHolt("^;");
        Kit.wrongHolt("  ^;wet");
    }

    // ---- promise 6: the first wrong byte

    @Kit.Says(promise = 6, words = "NONE without one, and ahead of any.")
    static void noFault() {
        OsierHolt x = new OsierHolt();
        Kit.is("ahead of any", x.fault(), OsierHolt.NONE);
        Kit.wrongHolt(x, "wet;^oops");
        Kit.holt(x, "wet");
        Kit.is("a right one", x.fault(), OsierHolt.NONE);
    }

    @Kit.Says(promise = 6, words = "The first wrong byte of the latest text that was read")
    static void theLatestText() {
        OsierHolt x = new OsierHolt();
        Kit.illegal("a wrong text", () -> Kit.holt(x, "wet;oops"));
        Kit.illegal("a wrong law", () -> Kit.law(x, "oops"));
        Kit.is("of the law", x.fault(), 0);
        Kit.illegal("a wrong text", () -> Kit.holt(x, "wet;oops"));
        Kit.is("of the text", x.fault(), 4);
        Kit.feed(x, 0);
        Kit.illegal("pieces are no text", () -> x.pieces(1));
        Kit.is("of the text", x.fault(), 4);
        Kit.law(x, "");
        Kit.is("a right law", x.fault(), OsierHolt.NONE);
    }

    @Kit.Says(promise = 6, words = "and fault(), where a text is read (also by one that is refused)")
    static void theFaultOfATextThatIsRefused() {
        OsierHolt x = new OsierHolt();
        for (int text = 1; text <= 12; text++) {
            Kit.holt(x, "");
        }
        Kit.illegal("a wrong text", () -> Kit.holt(x, "wet;oops"));
        Kit.is("fault", x.fault(), 4);
        Kit.fails("a 13th", UnsupportedOperationException.class, () -> Kit.holt(x, "wet"));
        Kit.is("fault of the 13th", x.fault(), OsierHolt.NONE);
    }

    @Kit.Says(promise = 6, words = "the begin of the first thing that cannot stand there")
    static void theBeginOfWhatCannotStandThere() {
        Kit.wrongHolt("wet ^wet");
        Kit.wrongHolt("till 5 ^5");
        Kit.wrongHolt("wet;  ^;wet");
        Kit.wrongHolt("^7");
        Kit.wrongHolt("till ^;wet");
        Kit.wrongHolt("till ^wet");
        Kit.wrongHolt("^oops;rain");
    }

    @Kit.Says(promise = 6, words = "(a number of more digits, or out of its bounds, or that tells none that can be;")
    static void theBeginOfANumber() {
        Kit.wrongHolt("rods 1   ^0001");
        Kit.wrongHolt("rods  ^9 1");
        Kit.wrongHolt(BASKET + ";order  ^1 1");
    }

    @Kit.Says(promise = 6, words = "a word that is none;")
    static void theBeginOfAWordThatIsNone() {
        Kit.wrongHolt("wet;  ^rain");
        Kit.wrongHolt("bed osier  ^old 1");
        Kit.wrongHolt("bed  ^osiers age 1");
        Kit.wrongHolt("^grow 1");
    }

    @Kit.Says(promise = 6, words = "of a LINE, a BED, a BASKET, a hand, an ORDER too many, the first word)")
    static void theFirstWordOfOneTooMany() {
        Kit.wrongHolt(Kit.lines(6, BED) + ";  ^bed oops");
        Kit.wrongHolt(Kit.lines(5, BASKET) + ";  ^basket");
        Kit.wrongHolt(Kit.lines(5, HAND) + ";  ^hand skill 99");
        Kit.wrongHolt(BASKET + ";" + Kit.lines(6, "order 0 1") + ";  ^order 9");
        Kit.wrongHolt(Kit.lines(14, "wet") + ";  ^till 9999");
    }

    @Kit.Says(promise = 6, words = "or the text's length, if more must come")
    static void theTextsLength() {
        Kit.wrongHolt("bed^");
        Kit.wrongHolt("bed  ^");
        Kit.wrongHolt("wet;^");
        Kit.wrongHolt("wet;  ^");
        Kit.wrongHolt("hand skill 1 wage^");
        Kit.wrongHolt("rods 1^");
        Kit.wrongHolt(Kit.lines(14, "wet") + ";^");
    }
}
