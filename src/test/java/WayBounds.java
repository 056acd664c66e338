/** Boundary cases of promises 25 to 36: what is found among ways. */
final class WayBounds {
    private WayBounds() {
    }

    private static String plain(int feet, int pays) {
        return Kit.basket(3, 1, "1 1", feet, pays);
    }

    private static int pieces(OsierHolt x, int feet, int... lengths) {
        Kit.feed(x, lengths);
        return x.pieces(feet);
    }

    private static void isRods(int feet, int[] lengths, int... due) {
        OsierHolt x = new OsierHolt();
        for (int k = 0; k < due.length; k++) {
            Kit.feed(x, lengths);
            Kit.is("rod(" + feet + ", " + k + ")", x.rod(feet, k), due[k]);
        }
    }

    private static int found(OsierHolt x, boolean first, int... rows) {
        Kit.feed(x, rows);
        return x.found(first);
    }

    private static int look(OsierHolt x, int... rows) {
        Kit.feed(x, rows);
        return x.look();
    }

    // ---- promises 25 and 26

    @Kit.Says(promise = 25, words = "GAIN of a BED and N (0 to 6)")
    static void gainOfNoneAndOfSixYears() {
        OsierHolt x = Kit.of("bed osier age 9 stools 10");
        Kit.is("0 years", x.gain(0, 0), 0);
        Kit.is("1 year", x.gain(0, 1), 120);
        // 6 and then 5 years of growing
        Kit.is("6 years", x.gain(0, 6), 220);
    }

    @Kit.Says(promise = 25, words = "GAIN. IllegalArgumentException: N is none.")
    static void gainOfYearsThatAreNone() {
        OsierHolt x = Kit.of("bed osier age 9 stools 10");
        Kit.illegal("7", () -> x.gain(0, 7));
        Kit.illegal("-1", () -> x.gain(0, -1));
        Kit.outOfBounds("bed 1", () -> x.gain(1, 0));
        Kit.outOfBounds("bed -1", () -> x.gain(-1, 0));
        Kit.outOfBounds("bed 1, 7", () -> x.gain(1, 7));
    }

    @Kit.Says(promise = 25, words = "N YEARS come, without floods or law (REACH is AGE, 6 at most)")
    static void gainWithoutFloodsOrLaw() {
        OsierHolt x = Kit.of("wet;flood 100;till 0;" + Kit.bed("osier", 4, 10, 9) + ";" + Kit.bed("osier", 5, 10, 9) + ";"
            + Kit.bed("osier", 6, 10, 9));
        Kit.law(x, "grow 9;dear 99");
        Kit.is("5", x.gain(0, 1), 100);
        Kit.is("6", x.gain(1, 1), 120);
        Kit.is("6 at most", x.gain(2, 1), 120);
        Kit.is("no acts, no draws", x.count(11) * 10 + x.seed(1), 1);
    }

    @Kit.Says(promise = 25, words = "(twice STOOLS, as they are now, times REACH at each cut)")
    static void gainOfStoolsAsTheyAreNow() {
        OsierHolt x = Kit.of("bed osier age 9 stools 99;bed osier age 9 stools 1");
        Kit.is("at 9 for two years", x.gain(0, 2), 198 * 7);
        Kit.is("the least", x.gain(1, 2), 14);
    }

    @Kit.Says(promise = 26, words = "CUTS: the YEARS so (bit 0 the first one) of the fewest cuts, of several the least as bits.")
    static void cutsOfNoneAndOfSixYears() {
        OsierHolt x = Kit.of("bed osier age 9 stools 10;bed osier age 0 stools 10");
        Kit.is("0 years", x.cuts(0, 0), 0);
        Kit.is("1 year", x.cuts(0, 1), 1);
        Kit.is("the first and the last one of six", x.cuts(0, 6), 1 + 32);
        Kit.is("the last one of six", x.cuts(1, 6), 32);
    }

    @Kit.Says(promise = 26, words = "of the fewest cuts, of several the least as bits")
    static void theFewestCuts() {
        // from 1 on: 2 and 1 and 1, or 4 - the same feet at once
        OsierHolt x = Kit.of("bed osier age 1 stools 1");
        Kit.is("once, behind three years", x.cuts(0, 3), 4);
        Kit.is("feet", x.gain(0, 3), 8);
        // from 4 on: 5 and 3, 6 and 2: in the first and the fourth, or the second and the fourth year
        OsierHolt y = Kit.of("bed osier age 4 stools 1");
        Kit.is("the least as bits", y.cuts(0, 4), 1 + 8);
    }

    @Kit.Says(promise = 26, words = "CUTS, as bits. IllegalArgumentException: N is none.")
    static void cutsOfYearsThatAreNone() {
        OsierHolt x = Kit.of("bed osier age 9 stools 10");
        Kit.illegal("7", () -> x.cuts(0, 7));
        Kit.illegal("-1", () -> x.cuts(0, -1));
        Kit.outOfBounds("bed 1, 7", () -> x.cuts(1, 7));
        Kit.outOfBounds("bed -1", () -> x.cuts(-1, 0));
    }

    // ---- promises 27 and 28: each basket needs 4 rods

    @Kit.Says(promise = 27, words = "OPEN ORDERS made up from the STORE as it is (each as a whole or not at all)")
    static void worthOfWholeOrders() {
        OsierHolt x = Kit.of(plain(1, 9) + ";" + plain(1, 4) + ";rods 1 11;order 0 3;order 1 2");
        Kit.is("11 rods are too few for 12", x.worth(), 8);
        x.buy(1, 1);
        Kit.is("12 for 12", x.worth(), 27);
        x.drop(0);
        Kit.is("dropped", x.worth(), 8);
    }

    @Kit.Says(promise = 27, words = "so that MANY times PAYS together is the most: how much")
    static void worthOfOneMore() {
        OsierHolt x = Kit.of(plain(1, 5) + ";" + plain(1, 6) + ";rods 1 7;order 0 1;order 1 1;order 0 1");
        Kit.is("6 is more than 5", x.worth(), 6);
        Kit.is("so it is that", x.fills(), 2);
        OsierHolt y = Kit.of(plain(1, 3) + ";" + plain(1, 7) + ";rods 1 8;order 1 1;order 0 2;order 0 1;order 1 1");
        Kit.is("7 and 7", y.worth() * 100 + y.fills(), 1409);
    }

    @Kit.Says(promise = 27, words = "made up from the STORE as it is")
    static void worthOfEachLength() {
        for (int feet = 1; feet <= 6; feet++) {
            String basket = plain(feet, 5);
            Kit.is("3 rods of " + feet, Kit.of(basket + ";order 0 1;rods " + feet + " 3").worth(), 0);
            Kit.is("4 rods of " + feet, Kit.of(basket + ";order 0 1;rods " + feet + " 4").worth(), 5);
        }
    }

    @Kit.Says(promise = 27, words = "Sets are bits; of none they count for nothing.")
    static void worthOfNone() {
        Kit.is("no orders", new OsierHolt().worth(), 0);
        Kit.is("no rods", Kit.of(plain(1, 9) + ";order 0 1").worth(), 0);
        Kit.is("no pay", Kit.of(plain(1, 0) + ";rods 1 99;order 0 9").worth(), 0);
        OsierHolt six = Kit.of(plain(1, 99) + ";rods 1 216;" + Kit.lines(6, "order 0 9"));
        Kit.is("the most that there is", six.worth(), 6 * 9 * 99);
        Kit.is("all", six.fills(), 63);
    }

    @Kit.Says(promise = 28, words = "(of the fewest ORDERS, of several the least as bits; 0, if WORTH is 0)")
    static void fillsOfNone() {
        Kit.is("no orders", new OsierHolt().fills(), 0);
        Kit.is("no pay", Kit.of(plain(1, 0) + ";rods 1 99;order 0 9;order 0 1").fills(), 0);
        Kit.is("no rods", Kit.of(plain(1, 9) + ";rods 1 3;order 0 1").fills(), 0);
    }

    @Kit.Says(promise = 28, words = "FILLS: these, as bits (of the fewest ORDERS")
    static void fillsOfTheFewest() {
        OsierHolt x = Kit.of(plain(1, 5) + ";rods 1 12;order 0 1;order 0 2;order 0 3");
        Kit.is("3 at once", x.fills(), 4);
        OsierHolt y = Kit.of(plain(1, 5) + ";" + plain(2, 0) + ";rods 1 4;rods 2 4;order 0 1;order 1 1");
        Kit.is("one that pays nothing is one more", y.fills(), 1);
    }

    @Kit.Says(promise = 28, words = "of several the least as bits; 0, if WORTH is 0)")
    static void fillsOfTheLeastBits() {
        OsierHolt x = Kit.of(plain(1, 5) + ";rods 1 8;order 0 3;order 0 1;order 0 1;order 0 1");
        Kit.is("two of three", x.fills(), 2 + 4);
        x.drop(1);
        Kit.is("two of two", x.fills(), 4 + 8);
    }

    // ---- promises 29 and 30

    @Kit.Says(promise = 29, words = "told are lengths (1 to 72 inches, else the TAPE is not that; at most 8)")
    static void lengthsThatAreNone() {
        OsierHolt x = new OsierHolt();
        Kit.is("1 and 72", pieces(x, 6, 1, 72), 2);
        Kit.illegal("0", () -> pieces(x, 6, 0));
        Kit.illegal("73", () -> pieces(x, 6, 73));
        Kit.illegal("255", () -> pieces(x, 6, 255));
        Kit.illegal("0 behind others", () -> pieces(x, 6, 1, 2, 0));
        Kit.illegal("73 ahead of others", () -> pieces(x, 6, 73, 1));
    }

    @Kit.Says(promise = 29, words = "(of each byte a length; at most 8 bytes)")
    static void eightLengths() {
        OsierHolt x = new OsierHolt();
        Kit.is("8", pieces(x, 1, 12, 12, 12, 12, 12, 12, 12, 12), 8);
        Kit.illegal("9", () -> pieces(x, 1, 1, 1, 1, 1, 1, 1, 1, 1, 1));
        Kit.feed(x, new int[400]);
        Kit.illegal("400", () -> x.pieces(1));
    }

    @Kit.Says(promise = 29, words = "the fewest rods; none, if one is too long (0 of none)")
    static void noLengthsAndOneTooLong() {
        OsierHolt x = new OsierHolt();
        Kit.is("0 of none", pieces(x, 1), 0);
        Kit.is("12 of 12", pieces(x, 1, 12), 1);
        Kit.is("13 of 12", pieces(x, 1, 13), OsierHolt.NONE);
        Kit.is("the last one too long", pieces(x, 1, 1, 1, 13), OsierHolt.NONE);
        Kit.is("72 of 72", pieces(x, 6, 72), 1);
        Kit.is("61 of 60", pieces(x, 5, 61), OsierHolt.NONE);
    }

    @Kit.Says(promise = 29, words = "to be cut from rods of so many FEET (12 inches each FOOT)")
    static void piecesThatFillRods() {
        OsierHolt x = new OsierHolt();
        Kit.is("12 and 12 of 24", pieces(x, 2, 12, 12), 1);
        Kit.is("12 and 13 of 24", pieces(x, 2, 12, 13), 2);
        Kit.is("two full ones", pieces(x, 1, 6, 4, 4, 3, 3, 2, 2), 2);
        Kit.is("one inch more", pieces(x, 1, 6, 4, 4, 3, 3, 2, 3), 3);
    }

    @Kit.Says(promise = 29, words = "IllegalArgumentException: the TAPE is not that (none may be told).")
    static void theTapeIsUsedUp() {
        OsierHolt x = new OsierHolt();
        pieces(x, 1, 1, 2);
        Kit.is("used up", x.end(1), false);
        Kit.is("none may be told", x.pieces(1), 0);
        Kit.illegal("0", () -> pieces(x, 1, 1, 0));
        Kit.is("used up", x.end(1), false);
        Kit.outOfBounds("0 feet", () -> pieces(x, 0, 1));
        Kit.is("used up", x.end(1), false);
    }

    @Kit.Says(promise = 29, words = "`int pieces(int feet) throws IndexOutOfBoundsException, IllegalArgumentException`")
    static void piecesOfNoFeet() {
        OsierHolt x = new OsierHolt();
        Kit.outOfBounds("0", () -> pieces(x, 0, 1));
        Kit.outOfBounds("7", () -> pieces(x, 7, 1));
        Kit.outOfBounds("-1", () -> pieces(x, -1, 1));
        Kit.outOfBounds("7, and no lengths", () -> pieces(x, 7, 0));
    }

    @Kit.Says(promise = 30, words = "ROD of the k-th piece: in the first such way")
    static void rodsInTheFirstWay() {
        isRods(1, new int[] {6, 6, 6}, 0, 0, 1);
        // 7 and 5, 8 and 4: the 4 cannot be with the 7
        isRods(1, new int[] {7, 4, 8, 5}, 0, 1, 1, 0);
        isRods(1, new int[] {1, 12, 1}, 0, 1, 0);
    }

    @Kit.Says(promise = 30, words = "a new one only as the next number")
    static void rodsByNumbers() {
        isRods(1, new int[] {12, 12, 12, 12, 12, 12, 12, 12}, 0, 1, 2, 3, 4, 5, 6, 7);
        isRods(1, new int[] {7, 7, 5, 5}, 0, 1, 0, 1);
    }

    @Kit.Says(promise = 30, words = "none (also of no such piece).")
    static void rodOfNoSuchPiece() {
        OsierHolt x = new OsierHolt();
        for (int k : new int[] {-1, 2, 8, Integer.MAX_VALUE, Integer.MIN_VALUE}) {
            Kit.feed(x, 5, 5);
            Kit.is("rod " + k, x.rod(1, k), OsierHolt.NONE);
        }
        Kit.is("of no pieces", x.rod(1, 0), OsierHolt.NONE);
        for (int k = 7; k < 10; k++) {
            Kit.feed(x, 12, 12, 12, 12, 12, 12, 12, 12);
            Kit.is("of eight, " + k, x.rod(1, k), k == 7 ? 7 : OsierHolt.NONE);
        }
        isRods(1, new int[] {1, 13}, OsierHolt.NONE, OsierHolt.NONE);
    }

    @Kit.Says(promise = 30, words = "Uses the TAPE up: ROD of the k-th piece (the TAPE likewise); NONE. IllegalArgumentException: the TAPE is not that.")
    static void rodOfATapeThatIsNotThat() {
        OsierHolt x = new OsierHolt();
        int[][] wrong = {{0}, {73}, {1, 1, 1, 1, 1, 1, 1, 1, 1}};
        for (int[] bytes : wrong) {
            Kit.feed(x, bytes);
            Kit.illegal("rod", () -> x.rod(1, 0));
            Kit.is("used up", x.end(1), false);
            Kit.feed(x, bytes);
            Kit.outOfBounds("rod of 0 feet", () -> x.rod(0, 0));
            Kit.feed(x, bytes);
            Kit.outOfBounds("rod of 7 feet", () -> x.rod(7, 0));
        }
        Kit.feed(x, 1);
        x.rod(1, 0);
        Kit.is("used up", x.end(1), false);
    }

    // ---- promises 31 and 32

    @Kit.Says(promise = 31, words = "told are rows: a place (0 to 99 as the weaver goes, 0 the first, else the TAPE is not that)")
    static void placesThatAreNone() {
        OsierHolt x = new OsierHolt();
        Kit.is("0", found(x, false, 0, 1), 40);
        Kit.is("99", found(x, false, 99, 1), 40);
        Kit.illegal("100", () -> found(x, false, 100, 1));
        Kit.illegal("255", () -> found(x, true, 1, 1, 255, 0));
    }

    @Kit.Says(promise = 31, words = "and whether it is OVER (1) or not (0)")
    static void oversThatAreNone() {
        OsierHolt x = new OsierHolt();
        Kit.is("over", found(x, true, 0, 1), 110);
        Kit.is("not", found(x, true, 0, 0), 111);
        Kit.illegal("2", () -> found(x, false, 0, 2));
        Kit.illegal("255", () -> found(x, false, 0, 255));
        Kit.illegal("2 behind others", () -> found(x, false, 0, 1, 1, 2));
    }

    @Kit.Says(promise = 31, words = "(of each two bytes: the place, 1 or 0; at most 40 bytes)")
    static void fortyBytes() {
        OsierHolt x = new OsierHolt();
        Kit.is("40", found(x, false, new int[40]), 40);
        Kit.illegal("42", () -> found(x, false, new int[42]));
        Kit.illegal("41", () -> found(x, false, new int[41]));
        Kit.illegal("1", () -> found(x, false, 0));
        Kit.illegal("3", () -> found(x, true, 0, 1, 1));
        Kit.illegal("400", () -> found(x, true, new int[400]));
    }

    @Kit.Says(promise = 31, words = "(1 to 4 each) that begins so many places later as it is (S, 0 to A and B less 1)")
    static void allWeaves() {
        OsierHolt x = new OsierHolt();
        Kit.is("none told: all of them", found(x, false), 80);
        Kit.is("the least", found(x, true), 110);
        // OOOO----OOOO---- and its last start: -OOOO---
        Kit.is("the greatest", found(x, true, 0, 0, 1, 1, 2, 1, 3, 1, 4, 1, 5, 0, 6, 0, 7, 0, 8, 0), 447);
        Kit.is("it alone", found(x, false, 0, 0, 1, 1, 2, 1, 3, 1, 4, 1, 5, 0, 6, 0, 7, 0, 8, 0), 1);
    }

    @Kit.Says(promise = 31, words = "FIRST: the first (100 times A, 10 times B, and S; the least); none.")
    static void noWeave() {
        OsierHolt x = new OsierHolt();
        Kit.is("a place both ways", found(x, false, 5, 0, 5, 1), 0);
        Kit.is("first of none", found(x, true, 5, 0, 5, 1), OsierHolt.NONE);
        Kit.is("five over", found(x, true, 0, 1, 1, 1, 2, 1, 3, 1, 4, 1), OsierHolt.NONE);
        Kit.is("four over", found(x, true, 0, 1, 1, 1, 2, 1, 3, 1), 410);
        Kit.is("five under", found(x, false, 0, 0, 1, 0, 2, 0, 3, 0, 4, 0), 0);
    }

    @Kit.Says(promise = 31, words = "Uses the TAPE up: FOUND")
    static void theTapeIsUsedUpByFound() {
        OsierHolt x = new OsierHolt();
        found(x, false, 0, 1);
        Kit.is("used up", x.end(1), false);
        Kit.is("none may be told", x.found(false), 80);
        Kit.illegal("it is not that", () -> found(x, false, 0, 2));
        Kit.is("used up", x.end(1), false);
    }

    @Kit.Says(promise = 32, words = "so that the greater part is the least (of several the least; none with fewer than two).")
    static void lookWithFewerThanTwo() {
        OsierHolt x = new OsierHolt();
        Kit.is("none", look(x, 5, 0, 5, 1), OsierHolt.NONE);
        Kit.is("one", look(x, 0, 1, 1, 1, 2, 1, 3, 1, 4, 0, 5, 0, 6, 0, 7, 0), OsierHolt.NONE);
        // OOOO--- and OOOO----: the 7th place parts them first
        Kit.is("two", look(x, 0, 1, 1, 1, 2, 1, 3, 1, 4, 0, 5, 0, 6, 0), 7);
    }

    @Kit.Says(promise = 32, words = "(of several the least; none with fewer than two)")
    static void lookAtTheLeastOfSeveral() {
        OsierHolt x = new OsierHolt();
        // of all 80 just 40 are over at each place
        Kit.is("none told", look(x), 0);
        // of 24 that begin OO or --, 12 at the next place
        Kit.is("OO", look(x, 0, 1, 1, 1), 2);
        Kit.is("--", look(x, 0, 0, 1, 0), 2);
    }

    @Kit.Says(promise = 32, words = "LOOK: the place (0 to 99) by which those that fit are parted so that the greater part is the least")
    static void lookAtFarPlaces() {
        OsierHolt x = new OsierHolt();
        // reckoned apart: 40 fit, 20 and 20 at place 9; 12, 6 and 6 at place 18; 20, 10 and 10 at place 98
        Kit.is("not the first place that parts them", look(x, 0, 1), 9);
        Kit.is("O--", look(x, 0, 1, 1, 0, 2, 0), 18);
        Kit.is("98", look(x, 7, 0, 90, 1), 98);
    }

    @Kit.Says(promise = 32, words = "Uses the TAPE up: LOOK (the TAPE as for FOUND); NONE. IllegalArgumentException: the TAPE is not that.")
    static void lookAtATapeThatIsNotThat() {
        OsierHolt x = new OsierHolt();
        int[][] wrong = {{0}, {100, 0}, {0, 2}, new int[41], new int[42]};
        for (int[] bytes : wrong) {
            Kit.illegal("look", () -> look(x, bytes));
            Kit.is("used up", x.end(1), false);
        }
        Kit.is("40 bytes", look(x, new int[40]) != OsierHolt.NONE, true);
        Kit.is("used up", x.end(1), false);
    }

    // ---- promises 33 and 34

    @Kit.Says(promise = 33, words = "TEAM: how much (hand NONE), or which ORDER one has; NONE.")
    static void teamOfNone() {
        OsierHolt x = new OsierHolt();
        Kit.is("no hands, no orders", x.team(OsierHolt.NONE), 0);
        Kit.holt(x, Kit.hand(9, 0));
        Kit.is("no orders", x.team(OsierHolt.NONE), 0);
        Kit.is("no orders", x.team(0), OsierHolt.NONE);
        OsierHolt y = Kit.of(plain(1, 9) + ";order 0 1");
        Kit.is("no hands", y.team(OsierHolt.NONE), 0);
    }

    @Kit.Says(promise = 33, words = "`int team(int hand) throws IndexOutOfBoundsException`")
    static void teamOfNoHand() {
        OsierHolt x = Kit.of(Kit.hand(9, 0) + ";" + plain(1, 9) + ";order 0 1");
        Kit.is("the last one", x.team(0), 0);
        Kit.outOfBounds("hand 1", () -> x.team(1));
        Kit.outOfBounds("hand -2", () -> x.team(-2));
        Kit.outOfBounds("the least", () -> x.team(Integer.MIN_VALUE));
        Kit.outOfBounds("the most", () -> x.team(Integer.MAX_VALUE));
    }

    @Kit.Says(promise = 33, words = "hands put to OPEN ORDERS, each to one at most, each ORDER for one at most")
    static void oneHandForOneOrder() {
        OsierHolt x = Kit.of(Kit.hand(9, 0) + ";" + Kit.hand(8, 0) + ";" + plain(1, 9) + ";order 0 9;rods 1 99");
        Kit.is("one order, two hands", x.team(-1), 81);
        x.take(0, 1);
        x.take(0, 1);
        Kit.is("three orders, two hands", x.team(-1), 153);
        x.drop(0);
        x.make(1);
        Kit.is("one is open", x.team(-1), 81);
        Kit.is("which one", x.team(0), 2);
    }

    @Kit.Says(promise = 33, words = "(hand by hand, none being the least, then the ORDERS); none.")
    static void theFirstTeam() {
        OsierHolt x = Kit.of(Kit.hand(5, 0) + ";" + Kit.hand(5, 0) + ";" + plain(1, 9) + ";" + plain(1, 0) + ";order 1 1;order 0 1");
        Kit.is("none comes ahead of order 1", x.team(0), OsierHolt.NONE);
        Kit.is("so the other one has it", x.team(1), 1);
        OsierHolt y = Kit.of(Kit.hand(5, 0) + ";" + plain(1, 9) + ";order 0 1;order 0 1");
        Kit.is("order 0 comes ahead of order 1", y.team(0), 0);
        OsierHolt w = Kit.of(Kit.hand(9, 0) + ";" + Kit.hand(1, 0) + ";" + plain(1, 9) + ";order 0 1");
        Kit.is("the abler one has it", w.team(0), 0);
        Kit.is("so the other one has none", w.team(1), OsierHolt.NONE);
        OsierHolt z = Kit.of(Kit.hand(5, 0) + ";" + plain(1, 0) + ";order 0 1");
        Kit.is("none comes ahead of what pays nothing", z.team(0), OsierHolt.NONE);
    }

    @Kit.Says(promise = 33, words = "so that SKILL times PAYS of the BASKET, of all so put, are together the most: how much")
    static void theGreatestTeam() {
        OsierHolt x = Kit.of(Kit.lines(5, Kit.hand(9, 0)) + ";" + plain(1, 99), Kit.lines(6, "order 0 1"));
        Kit.is("five hands, six orders", x.team(-1), 5 * 9 * 99);
        for (int hand = 0; hand < 5; hand++) {
            Kit.is("hand " + hand, x.team(hand), hand);
        }
    }

    @Kit.Says(promise = 34, words = "PAIRS: how much (bed NONE), or with which one is; NONE.")
    static void pairsOfNone() {
        OsierHolt x = new OsierHolt();
        Kit.is("no beds", x.pairs(OsierHolt.NONE), 0);
        Kit.holt(x, "bed osier age 1 stools 9");
        Kit.is("one bed", x.pairs(OsierHolt.NONE), 0);
        Kit.is("one bed", x.pairs(0), OsierHolt.NONE);
        Kit.holt(x, "bed purple age 1 stools 9");
        Kit.is("two beds", x.pairs(OsierHolt.NONE), 18);
        Kit.is("two beds", x.pairs(0) * 10 + x.pairs(1), 10);
    }

    @Kit.Says(promise = 34, words = "`int pairs(int bed) throws IndexOutOfBoundsException`")
    static void pairsOfNoBed() {
        OsierHolt x = Kit.of("bed osier age 1 stools 9");
        Kit.outOfBounds("bed 1", () -> x.pairs(1));
        Kit.outOfBounds("bed -2", () -> x.pairs(-2));
        Kit.outOfBounds("the least", () -> x.pairs(Integer.MIN_VALUE));
    }

    @Kit.Says(promise = 34, words = "no two of one SORT")
    static void noTwoOfOneSort() {
        OsierHolt x = Kit.of(Kit.lines(6, "bed osier age 1 stools 9"));
        Kit.is("all of one", x.pairs(-1), 0);
        Kit.is("none", x.pairs(0), OsierHolt.NONE);
        OsierHolt y = Kit.of(Kit.lines(5, "bed osier age 1 stools 9") + ";bed purple age 1 stools 1");
        Kit.is("one of another", y.pairs(-1), 10);
        Kit.is("of several the last one, for none is the least", y.pairs(4), 5);
    }

    @Kit.Says(promise = 34, words = "(BED by BED, none being the least, then the others); none.")
    static void theFirstPairs() {
        OsierHolt x = Kit.of("bed osier age 1 stools 1;bed osier age 1 stools 1;bed purple age 1 stools 1;bed purple age 1 stools 1");
        int[] due = {2, 3, 0, 1};
        for (int bed = 0; bed < 4; bed++) {
            Kit.is("bed " + bed, x.pairs(bed), due[bed]);
        }
        OsierHolt y = Kit.of("bed osier age 1 stools 5;bed purple age 1 stools 5;bed almond age 1 stools 5");
        Kit.is("none is the least", y.pairs(0), OsierHolt.NONE);
        Kit.is("the others", y.pairs(1) * 10 + y.pairs(2), 21);
    }

    // ---- promises 35 and 36

    @Kit.Says(promise = 35, words = "the fewest steps by which the RUNS of the one become those of the other one, each step putting in, taking out or changing one RUN")
    static void theFewestAndTheMostSteps() {
        OsierHolt x = Kit.of(Kit.basket(3, 1, "1 2", 1, 0) + ";" + Kit.basket(3, 1, "1 2 1 2 1 2", 1, 0) + ";"
            + Kit.basket(3, 1, "3 4 3 4 3 4", 1, 0) + ";" + Kit.basket(9, 9, "1 2", 6, 9) + ";" + Kit.basket(3, 1, "2 1", 1, 0));
        OsierHolt y = Kit.of(Kit.basket(3, 1, "1 2 3 4", 1, 0) + ";" + Kit.basket(3, 1, "3 4", 1, 0) + ";"
            + Kit.basket(3, 1, "1 2", 1, 0) + ";" + Kit.basket(3, 1, "2 3 4 1", 1, 0));
        Kit.is("taking out at the begin", y.change(0, 1), 2);
        Kit.is("putting in at the begin", y.change(1, 0), 2);
        Kit.is("taking out at the end", y.change(0, 2), 2);
        Kit.is("putting in at the end", y.change(2, 0), 2);
        Kit.is("from the begin to the end", y.change(0, 3), 2);
        Kit.is("from the end to the begin", y.change(3, 0), 2);
        Kit.is("of one and itself", x.change(1, 1), 0);
        Kit.is("of two alike", x.change(0, 3), 0);
        Kit.is("putting in", x.change(0, 1), 4);
        Kit.is("taking out", x.change(1, 0), 4);
        Kit.is("changing", x.change(1, 2), 6);
        Kit.is("putting in and changing", x.change(0, 2), 6);
        Kit.is("1 2 and 2 1", x.change(0, 4), 2);
        Kit.is("2 1 is in 1 2 1 2 1 2", x.change(4, 1), 4);
    }

    @Kit.Says(promise = 35, words = "`int change(int basket, int other) throws IndexOutOfBoundsException`: CHANGE.")
    static void changeOfNoBasket() {
        OsierHolt x = Kit.of(plain(1, 0));
        Kit.is("basket 0", x.change(0, 0), 0);
        Kit.outOfBounds("1, 0", () -> x.change(1, 0));
        Kit.outOfBounds("0, 1", () -> x.change(0, 1));
        Kit.outOfBounds("-1, 0", () -> x.change(-1, 0));
        Kit.outOfBounds("0, -1", () -> x.change(0, -1));
    }

    @Kit.Says(promise = 36, words = "SHARE of N (0 to 99)")
    static void shareOfNoneAndOf99() {
        OsierHolt x = Kit.of(Kit.hand(9, 0) + ";" + Kit.hand(1, 0));
        Kit.is("0", x.share(0, 0), 0);
        Kit.is("1", x.share(0, 1), 1);
        // 9 of ones at least to the first; then the second has one, and all zeros go to the first
        Kit.is("99", x.share(0, 99), 98);
        Kit.is("99", x.share(1, 99), 1);
        Kit.is("one hand", Kit.of(Kit.hand(1, 0)).share(0, 99), 99);
        OsierHolt five = Kit.of(Kit.lines(4, Kit.hand(1, 0)) + ";" + Kit.hand(9, 0));
        Kit.is("the fifth of five", five.share(4, 5), 4);
        Kit.is("the first of five", five.share(0, 5), 1);
    }

    @Kit.Says(promise = 36, words = "SHARE. IllegalArgumentException: N is none.")
    static void shareOfNoNumber() {
        OsierHolt x = Kit.of(Kit.hand(9, 0));
        Kit.illegal("-1", () -> x.share(0, -1));
        Kit.illegal("100", () -> x.share(0, 100));
        Kit.outOfBounds("hand 1", () -> x.share(1, 0));
        Kit.outOfBounds("hand -1", () -> x.share(-1, 0));
        Kit.outOfBounds("hand 1, 100", () -> x.share(1, 100));
        Kit.outOfBounds("hand 0 of none", () -> new OsierHolt().share(0, 0));
    }

    @Kit.Says(promise = 36, words = "each to the one whose SKILL, by 1 more than the bundles it has so far, rounded down, is the most (of several the least)")
    static void shareOfSeveralTheLeast() {
        OsierHolt x = Kit.of(Kit.hand(3, 0) + ";" + Kit.hand(3, 0) + ";" + Kit.hand(2, 0));
        // 3 3 2, then ones: 3/2, 3/2, 2/2; 3/3, 3/3; then zeros to the first
        int[][] due = {{1, 0, 0}, {1, 1, 0}, {1, 1, 1}, {2, 1, 1}, {3, 1, 1}, {3, 2, 1}, {3, 3, 1}, {3, 3, 2}, {4, 3, 2}};
        for (int n = 1; n <= due.length; n++) {
            for (int hand = 0; hand < 3; hand++) {
                Kit.is("share(" + hand + ", " + n + ")", x.share(hand, n), due[n - 1][hand]);
            }
        }
    }
}
