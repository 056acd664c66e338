/** Boundary cases of promises 7 to 14: what there is. */
final class StockBounds {
    private StockBounds() {
    }

    private static OsierHolt baskets(int stakes, int rounds, String... weaves) {
        OsierHolt x = new OsierHolt();
        for (String weave : weaves) {
            Kit.holt(x, Kit.basket(stakes, rounds, weave, 1, 0));
        }
        return x;
    }

    // ---- promise 7

    @Kit.Says(promise = 7, words = "IndexOutOfBoundsException: there is no such BED")
    static void noSuchBed() {
        OsierHolt x = Kit.of("bed osier age 1 stools 1;bed osier age 1 stools 2");
        Kit.is("the last one", x.bed(1, 2), 2);
        Kit.outOfBounds("bed 2", () -> x.bed(2, 0));
        Kit.outOfBounds("bed -1", () -> x.bed(-1, 0));
        Kit.outOfBounds("the least", () -> x.bed(Integer.MIN_VALUE, 0));
        Kit.outOfBounds("the most", () -> x.bed(Integer.MAX_VALUE, 0));
    }

    @Kit.Says(promise = 7, words = "4 REACH, 5 YIELD, 6 COST, 7 PART. NoSuchElementException: another what.")
    static void anotherWhatOfABed() {
        OsierHolt x = Kit.of("bed osier age 1 stools 1");
        Kit.is("0", x.bed(0, 0), 0);
        Kit.is("7", x.bed(0, 7), 100);
        Kit.noSuch("8", () -> x.bed(0, 8));
        Kit.noSuch("-1", () -> x.bed(0, -1));
    }

    @Kit.Says(promise = 7, words = "Of several exceptions the one told first is thrown")
    static void noSuchBedOfAnotherWhat() {
        Kit.outOfBounds("bed 0 of none, what 8", () -> new OsierHolt().bed(0, 8));
    }

    @Kit.Says(promise = 7, words = "PART of a BED of STOOLS of all, in hundredths, rounded down.")
    static void partIsRoundedDown() {
        OsierHolt x = Kit.of("bed osier age 1 stools 99;bed osier age 1 stools 1;bed osier age 1 stools 1");
        Kit.is("99 of 101", x.bed(0, 7), 98);
        Kit.is("1 of 101", x.bed(1, 7), 0);
        Kit.is("all", Kit.of("bed osier age 1 stools 99").bed(0, 7), 100);
        OsierHolt y = Kit.of("bed osier age 1 stools 1;bed osier age 1 stools 99");
        Kit.is("1 of 100", y.bed(0, 7), 1);
        Kit.is("99 of 100", y.bed(1, 7), 99);
        OsierHolt six = Kit.of(Kit.lines(5, "bed osier age 1 stools 99") + ";bed osier age 1 stools 1");
        Kit.is("99 of 496", six.bed(0, 7), 19);
        Kit.is("1 of 496", six.bed(5, 7), 0);
    }

    // ---- promise 8

    @Kit.Says(promise = 8, words = "IndexOutOfBoundsException: there is no such BED, BASKET")
    static void noSuchBasket() {
        OsierHolt x = baskets(3, 1, "1 1");
        Kit.outOfBounds("basket 1", () -> x.basket(1, 0));
        Kit.outOfBounds("basket -1", () -> x.basket(-1, 0));
        Kit.outOfBounds("basket 1 of another what", () -> x.basket(1, 13));
        Kit.outOfBounds("basket 0 of none", () -> new OsierHolt().basket(0, 0));
    }

    @Kit.Says(promise = 8, words = "11 FIT (NONE), 12 NEAREST (NONE). NoSuchElementException: another what.")
    static void anotherWhatOfABasket() {
        OsierHolt x = baskets(3, 1, "1 1", "1 1");
        Kit.is("12", x.basket(0, 12), 1);
        Kit.noSuch("13", () -> x.basket(0, 13));
        Kit.noSuch("-1", () -> x.basket(0, -1));
    }

    @Kit.Says(promise = 8, words = "its STAKES times ROUNDS times 2 by (12 times FEET less 2), rounded up")
    static void needIsRoundedUp() {
        OsierHolt x = Kit.of(Kit.basket(5, 1, "1 1", 1, 0) + ";" + Kit.basket(5, 2, "1 1", 1, 0) + ";"
            + Kit.basket(11, 1, "1 1", 1, 0) + ";" + Kit.basket(3, 1, "1 1", 6, 0) + ";" + Kit.basket(24, 20, "1 1", 6, 0));
        Kit.is("5 and 10 by 10", x.basket(0, 4), 6);
        Kit.is("5 and 20 by 10", x.basket(1, 4), 7);
        Kit.is("11 and 22 by 10", x.basket(2, 4), 14);
        Kit.is("3 and 6 by 70", x.basket(3, 4), 4);
        Kit.is("24 and 960 by 70", x.basket(4, 4), 38);
    }

    @Kit.Says(promise = 8, words = "PERIOD: its RUNS together.")
    static void theLeastAndTheGreatestPeriod() {
        OsierHolt x = baskets(3, 1, "1 1", "4 4 4 4 4 4", "1 2 1 2");
        Kit.is("1 1", x.basket(0, 5), 2);
        Kit.is("six of 4", x.basket(1, 5), 24);
        Kit.is("runs that repeat themselves", x.basket(2, 5), 6);
    }

    @Kit.Says(promise = 8, words = "AGAIN: the fewest ROUNDS, 1 at least, behind which it passes OVER and under as from the first STAKE on")
    static void againIs1AtLeast() {
        Kit.is("2 by 4 stakes", baskets(4, 1, "1 1").basket(0, 6), 1);
        Kit.is("24 by 24 stakes", baskets(24, 1, "4 4 4 4 4 4").basket(0, 6), 1);
        Kit.is("2 by 3 stakes", baskets(3, 1, "1 1").basket(0, 6), 2);
        Kit.is("23 by 24 stakes", baskets(24, 1, "4 4 4 4 4 3").basket(0, 6), 23);
        Kit.is("3 by 4 stakes", baskets(4, 1, "1 2").basket(0, 6), 3);
    }

    @Kit.Says(promise = 8, words = "(by what it passes, whatever the place in its RUNS: RUNS that repeat themselves come round sooner)")
    static void runsThatRepeatThemselvesComeRoundSooner() {
        Kit.is("1 2 twice by 3 stakes", baskets(3, 1, "1 2 1 2").basket(0, 6), 1);
        Kit.is("1 1 thrice by 4 stakes", baskets(4, 1, "1 1 1 1 1 1").basket(0, 6), 1);
        Kit.is("1 1 twice by 3 stakes", baskets(3, 1, "1 1 1 1").basket(0, 6), 2);
        Kit.is("1 2 2 1 by 3 stakes is not 1 2 twice", baskets(3, 1, "1 2 2 1").basket(0, 6), 2);
    }

    @Kit.Says(promise = 8, words = "LOOSE: STAKES that it passes OVER in all of its ROUNDS, or in none, as bits")
    static void looseInAllAndInNone() {
        // O-- O-- over 3 stakes: the first one always over, the others never
        Kit.is("all and none", baskets(3, 20, "1 2").basket(0, 7), 7);
        // OOO / O-- : in one of two rounds under, but for the first stake
        Kit.is("all", baskets(3, 2, "4 4").basket(0, 7), 1);
        // O---O / ---O- / --O-- / -O--- : it is over the second stake in the fourth round alone
        Kit.is("none in 3 rounds", baskets(5, 3, "1 3").basket(0, 7), 2);
        Kit.is("none in 4 rounds", baskets(5, 4, "1 3").basket(0, 7), 0);
    }

    @Kit.Says(promise = 8, words = "(with one ROUND all of them)")
    static void looseWithOneRound() {
        Kit.is("3 stakes", baskets(3, 1, "1 1").basket(0, 7), 7);
        Kit.is("24 stakes", baskets(24, 1, "1 1").basket(0, 7), 0xffffff);
        Kit.is("3 stakes in 2 rounds", baskets(3, 2, "1 1").basket(0, 7), 0);
    }

    @Kit.Says(promise = 8, words = "as the weaver goes, from ROUND to ROUND on, too (from the first to the last one, not round again)")
    static void floatsGoFromRoundToRound() {
        // OOO O--
        Kit.is("on into the second round", baskets(3, 2, "4 4").basket(0, 8), 4);
        // OOO alone
        Kit.is("up to the last round's end", baskets(3, 1, "4 4").basket(0, 8), 3);
        // OO- -OO : behind the last stake the first one is not the next
        Kit.is("not round again", baskets(3, 2, "2 2").basket(0, 8), 2);
    }

    @Kit.Says(promise = 8, words = "DROP: the most ROUNDS one behind another in which some STAKE is passed alike (from the first to the last one).")
    static void theLeastAndTheGreatestDrop() {
        Kit.is("one round", baskets(3, 1, "1 1").basket(0, 9), 1);
        Kit.is("each round another way", baskets(3, 20, "1 1").basket(0, 9), 1);
        Kit.is("all rounds alike", baskets(4, 20, "1 1").basket(0, 9), 20);
        // O-O / -O- / O-O : the last one and the first one are not one behind another
        Kit.is("not round again", baskets(3, 3, "1 1").basket(0, 9), 1);
        Kit.is("O-O twice, then -O-", baskets(3, 3, "1 1 2 1 1 1").basket(0, 9), 2);
        // OOO / --- and then - : behind the last one there is none
        Kit.is("none behind the last one", baskets(3, 2, "3 4").basket(0, 9), 1);
        // O-- / -OO
        Kit.is("none ahead of the first one", baskets(3, 2, "1 3 2 1").basket(0, 9), 1);
        // OOO / O--
        Kit.is("some stake is the first one", baskets(3, 2, "4 4").basket(0, 9), 2);
        // OO- / ---
        Kit.is("some stake is the last one", baskets(3, 2, "2 4").basket(0, 9), 2);
    }

    @Kit.Says(promise = 8, words = "BLIND: ROUNDS (but the first one) in which each STAKE is passed just as in the ROUND before: how many.")
    static void theFirstRoundIsNeverBlind() {
        Kit.is("one round", baskets(4, 1, "1 1").basket(0, 10), 0);
        Kit.is("two rounds alike", baskets(4, 2, "1 1").basket(0, 10), 1);
        Kit.is("20 rounds alike", baskets(4, 20, "1 1").basket(0, 10), 19);
        Kit.is("no two alike", baskets(3, 20, "1 1").basket(0, 10), 0);
    }

    @Kit.Says(promise = 8, words = "in which each STAKE is passed just as in the ROUND before: how many")
    static void oneStakeOtherwiseIsNotBlind() {
        // O-O / O-O / -O-
        Kit.is("each one", baskets(3, 3, "1 1 2 1 1 1").basket(0, 10), 1);
        // OOO / O--
        Kit.is("the first one alone", baskets(3, 2, "4 4").basket(0, 10), 0);
        // O-O / --O
        Kit.is("all but the first one", baskets(3, 2, "1 1 1 2 1 1").basket(0, 10), 0);
        // OO- / OOO
        Kit.is("all but the last one", baskets(3, 2, "2 1 3 1").basket(0, 10), 0);
    }

    @Kit.Says(promise = 8, words = "FIT: the least number of STAKES (3 to 24) with which it would be SOUND; none.")
    static void theLeastFit() {
        Kit.is("3", baskets(24, 2, "1 1").basket(0, 11), 3);
        Kit.is("4", baskets(3, 2, "4 4").basket(0, 11), 4);
        // OO / -- : 2 stakes would be sound, but they are too few
        Kit.is("3 at least", baskets(3, 2, "2 2").basket(0, 11), 6);
        Kit.is("the greatest that there is", baskets(3, 3, "4 2 3 2 4 4").basket(0, 11), 17);
        Kit.is("none in one round", baskets(3, 1, "1 1").basket(0, 11), OsierHolt.NONE);
        Kit.is("none in two rounds", baskets(3, 2, "1 2").basket(0, 11), OsierHolt.NONE);
    }

    @Kit.Says(promise = 8, words = "the other one of the least CHANGE (of several the least; none)")
    static void nearestOfSeveralAndOfNone() {
        Kit.is("none", baskets(3, 1, "1 1").basket(0, 12), OsierHolt.NONE);
        OsierHolt x = baskets(3, 1, "1 1", "1 2", "1 1", "2 1", "1 1");
        Kit.is("never itself", x.basket(0, 12), 2);
        Kit.is("of several the least", x.basket(4, 12), 0);
        Kit.is("of several the least", x.basket(1, 12), 0);
        Kit.is("of several the least", x.basket(2, 12), 0);
    }

    // ---- promise 9

    @Kit.Says(promise = 9, words = "The k-th RUN of the WEAVE; NONE.")
    static void runsBeyondTheWeave() {
        OsierHolt x = baskets(3, 1, "1 2", "1 2 3 4 3 2");
        Kit.is("the first one", x.run(0, 0), 1);
        Kit.is("the last of two", x.run(0, 1), 2);
        Kit.is("a third", x.run(0, 2), OsierHolt.NONE);
        Kit.is("the last of six", x.run(1, 5), 2);
        Kit.is("a seventh", x.run(1, 6), OsierHolt.NONE);
        Kit.is("-1", x.run(1, -1), OsierHolt.NONE);
        Kit.is("the least", x.run(1, Integer.MIN_VALUE), OsierHolt.NONE);
        Kit.is("the most", x.run(1, Integer.MAX_VALUE), OsierHolt.NONE);
    }

    @Kit.Says(promise = 9, words = "`int run(int basket, int k) throws IndexOutOfBoundsException`")
    static void runOfNoBasket() {
        OsierHolt x = baskets(3, 1, "1 2");
        Kit.outOfBounds("basket 1", () -> x.run(1, 0));
        Kit.outOfBounds("basket -1", () -> x.run(-1, 9));
    }

    // ---- promise 10

    @Kit.Says(promise = 10, words = "IllegalArgumentException: there is no such ROUND, STAKE of it.")
    static void noSuchRoundOrStake() {
        OsierHolt x = baskets(4, 2, "1 1");
        Kit.is("the last stake of the last round", x.over(0, 1, 3), false);
        Kit.illegal("round 2", () -> x.over(0, 2, 0));
        Kit.illegal("round -1", () -> x.over(0, -1, 0));
        Kit.illegal("stake 4", () -> x.over(0, 0, 4));
        Kit.illegal("stake -1", () -> x.over(0, 0, -1));
        Kit.illegal("stake -1 of round 1", () -> x.over(0, 1, -1));
        Kit.illegal("the most", () -> x.over(0, Integer.MAX_VALUE, Integer.MAX_VALUE));
    }

    @Kit.Says(promise = 10, words = "Of several exceptions the one told first is thrown")
    static void noSuchBasketAndNoSuchRound() {
        OsierHolt x = baskets(4, 2, "1 1");
        Kit.outOfBounds("basket 1, round 9", () -> x.over(1, 9, 9));
        Kit.outOfBounds("basket -1", () -> x.over(-1, 0, 0));
    }

    @Kit.Says(promise = 10, words = "on and on without a break: of the RUNS of the WEAVE, again and again one behind another")
    static void theWeaveGoesOnFromRoundToRound() {
        // OO- OO- ... over 4 stakes: OO-O O-OO -OO-
        OsierHolt x = baskets(4, 3, "2 1");
        String due = "OO-OO-OO-OO-";
        for (int place = 0; place < 12; place++) {
            Kit.is("place " + place, x.over(0, place / 4, place % 4), due.charAt(place) == 'O');
        }
        // the last place of 480, in runs of 23 places: 479 is 20 times 23 and 19, behind O at 16 to 19
        OsierHolt y = baskets(24, 20, "4 4 4 4 4 3");
        Kit.is("the last place", y.over(0, 19, 23), true);
        Kit.is("two places ahead", y.over(0, 19, 21), true);
        Kit.is("three runs ahead", y.over(0, 19, 19), false);
    }

    @Kit.Says(promise = 10, words = "the first, third, fifth are OVER so many STAKES, the others under so many")
    static void theFirstThirdAndFifthRunAreOver() {
        OsierHolt x = baskets(12, 1, "1 2 3 1 2 3");
        String due = "O--OOO-OO---";
        for (int stake = 0; stake < 12; stake++) {
            Kit.is("stake " + stake, x.over(0, 0, stake), due.charAt(stake) == 'O');
        }
    }

    // ---- promise 11

    @Kit.Says(promise = 11, words = "SOUND: whether none is LOOSE.")
    static void oneLooseStakeIsTooMany() {
        Kit.is("one of five", baskets(5, 3, "1 3").sound(0), false);
        Kit.is("none of five", baskets(5, 4, "1 3").sound(0), true);
        Kit.is("with one round", baskets(3, 1, "1 1").sound(0), false);
    }

    @Kit.Says(promise = 11, words = "`boolean sound(int basket) throws IndexOutOfBoundsException`")
    static void soundOfNoBasket() {
        OsierHolt x = baskets(5, 4, "1 3");
        Kit.outOfBounds("basket 1", () -> x.sound(1));
        Kit.outOfBounds("basket -1", () -> x.sound(-1));
    }

    // ---- promises 12 to 14

    @Kit.Says(promise = 12, words = "IndexOutOfBoundsException: there is no such BED, BASKET, hand, ORDER, SORT, FEET (1 to 6).")
    static void noSuchFeet() {
        OsierHolt x = Kit.of("rods 1 3;rods 6 4");
        Kit.is("1 foot", x.store(1), 3);
        Kit.is("6 feet", x.store(6), 4);
        Kit.outOfBounds("0 feet", () -> x.store(0));
        Kit.outOfBounds("7 feet", () -> x.store(7));
        Kit.outOfBounds("-1 feet", () -> x.store(-1));
        Kit.outOfBounds("the most", () -> x.store(Integer.MAX_VALUE));
    }

    @Kit.Says(promise = 13, words = "`int hand(int hand, boolean wage) throws IndexOutOfBoundsException`: Of a hand SKILL (wage false), or WAGE.")
    static void noSuchHand() {
        OsierHolt x = Kit.of("hand skill 1 wage 2;hand skill 3 wage 4");
        Kit.is("the last one", x.hand(1, false) * 10 + x.hand(1, true), 34);
        Kit.outOfBounds("hand 2", () -> x.hand(2, false));
        Kit.outOfBounds("hand -1", () -> x.hand(-1, true));
        Kit.outOfBounds("hand 0 of none", () -> new OsierHolt().hand(0, true));
    }

    @Kit.Says(promise = 14, words = "`int order(int order, int what) throws IndexOutOfBoundsException, NoSuchElementException`")
    static void noSuchOrder() {
        OsierHolt x = Kit.of(Kit.basket(3, 1, "1 1", 1, 0) + ";order 0 9");
        Kit.outOfBounds("order 1", () -> x.order(1, 0));
        Kit.outOfBounds("order -1", () -> x.order(-1, 0));
        Kit.outOfBounds("order 1 of another what", () -> x.order(1, 4));
    }

    @Kit.Says(promise = 14, words = "2 1 if OPEN, 3 how many rods it needs. NoSuchElementException: another what.")
    static void anotherWhatOfAnOrder() {
        OsierHolt x = Kit.of(Kit.basket(24, 20, "1 1", 1, 0) + ";order 0 9");
        Kit.is("the most rods", x.order(0, 3), 9 * (24 + 96));
        Kit.noSuch("4", () -> x.order(0, 4));
        Kit.noSuch("-1", () -> x.order(0, -1));
    }

    @Kit.Says(promise = 14, words = "2 1 if OPEN")
    static void anOrderOpenNoMore() {
        OsierHolt x = Kit.of(Kit.basket(3, 1, "1 1", 1, 0) + ";order 0 1;order 0 1;order 0 1;rods 1 8;" + Kit.hand(1, 0));
        Kit.is("open at first", x.order(0, 2) + x.order(1, 2) + x.order(2, 2), 3);
        x.drop(0);
        x.make(1);
        x.years(1);
        Kit.is("dropped", x.order(0, 2), 0);
        Kit.is("made up by hand", x.order(1, 2), 0);
        Kit.is("made up in a year", x.order(2, 2), 0);
        Kit.is("rods that it needed", x.order(0, 3), 4);
    }
}
