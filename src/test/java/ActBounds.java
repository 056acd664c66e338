/** Boundary cases of promises 16 to 24: acts. */
final class ActBounds {
    // a need of 4 rods
    private static final String BASKET = Kit.basket(3, 1, "1 1", 1, 7);

    private ActBounds() {
    }

    /** A holt with 9999 in its TILL. */
    private static OsierHolt rich() {
        OsierHolt x = new OsierHolt();
        for (int k = 0; k < 4; k++) {
            Kit.holt(x, "rods 6 999");
            x.sell(6, 999);
        }
        return x;
    }

    /** A holt with 9900 rods of 1 FOOT and 9999 in its TILL. */
    private static OsierHolt full() {
        OsierHolt x = rich();
        for (int k = 0; k < 10; k++) {
            x.buy(1, 990);
        }
        for (int k = 0; k < 4; k++) {
            Kit.holt(x, "rods 6 999");
            x.sell(6, 999);
        }
        return x;
    }

    private static void refused(OsierHolt x, Runnable call) {
        String before = Kit.state(x);
        Kit.impossible("it", () -> {
            call.run();
            return 0;
        });
        Kit.is("state", Kit.state(x), before);
    }

    // ---- promise 16

    @Kit.Says(promise = 16, words = "IllegalStateException: REACH is 0, or COST is above TILL.")
    static void cutWithoutReach() {
        OsierHolt x = Kit.of("bed osier age 0 stools 9;bed osier age 1 stools 9");
        refused(x, () -> x.cut(0));
        Kit.is("reach 1", x.cut(1), 18);
        refused(x, () -> x.cut(1));
        Kit.is("store", x.store(1), 18);
    }

    @Kit.Says(promise = 16, words = "or COST is above TILL.")
    static void cutForTheWholeTill() {
        OsierHolt x = Kit.of("bed osier age 1 stools 9;till 4");
        refused(x, () -> x.cut(0));
        Kit.holt(x, "till 5");
        Kit.is("5 of 5", x.cut(0), 18);
        Kit.is("till", x.count(7), 0);
    }

    @Kit.Says(promise = 16, words = "`int cut(int bed) throws IndexOutOfBoundsException, IllegalStateException`")
    static void cutOfNoBed() {
        OsierHolt x = Kit.of("bed osier age 0 stools 9");
        Kit.outOfBounds("bed 1", () -> x.cut(1));
        Kit.outOfBounds("bed -1", () -> x.cut(-1));
    }

    @Kit.Says(promise = 16, words = "its YIELD of rods of its REACH is in the STORE, 9999 at most; told is the YIELD, in THE LOG, too")
    static void cutIntoAFullStore() {
        OsierHolt x = full();
        Kit.is("store", x.store(1), 9900);
        Kit.holt(x, "bed osier age 1 stools 49;bed osier age 1 stools 1;bed osier age 1 stools 99");
        Kit.is("98", x.cut(0), 98);
        Kit.is("9998", x.store(1), 9998);
        Kit.is("2", x.cut(1), 2);
        Kit.is("9999 at most", x.store(1), 9999);
        Kit.is("198 are told all the same", x.cut(2), 198);
        Kit.is("9999 at most", x.store(1), 9999);
        Kit.is("in the log, too", x.log(0, 3), 198);
    }

    @Kit.Says(promise = 16, words = "(COST is paid, AGE is 0, its YIELD of rods of its REACH is in the STORE")
    static void cutsOfTheLeastAndTheGreatestReach() {
        OsierHolt x = Kit.of("bed osier age 1 stools 1;bed osier age 9 stools 99");
        Kit.is("1", x.cut(0), 2);
        Kit.is("6", x.cut(1), 198);
        Kit.is("1 foot", x.store(1), 2);
        Kit.is("6 feet", x.store(6), 198);
        Kit.is("ages", x.bed(0, 1) + x.bed(1, 1), 0);
        Kit.is("till", x.count(7), 40);
        Kit.is("stools stay", x.bed(1, 2), 99);
    }

    @Kit.Says(promise = 16, words = "a BED is cut (COST is paid, AGE is 0")
    static void theLawIsAskedAheadOfTheCut() {
        OsierHolt x = Kit.of("bed osier age 2 stools 3;till 26");
        Kit.law(x, "grow 1 if till > 25;rot 5 if age < 1;dear 10 if ripe;dear 11 if till < 1");
        Kit.is("yield", x.cut(0), 6);
        Kit.is("till", x.count(7), 11);
        Kit.is("reach 3", x.store(3), 6);
    }

    // ---- promise 17

    @Kit.Says(promise = 17, words = "IllegalStateException: TILL is too little")
    static void buyForTheWholeTill() {
        OsierHolt x = Kit.of("till 12");
        refused(x, () -> x.buy(1, 13));
        refused(x, () -> x.buy(6, 3));
        Kit.is("6 feet of 12", x.buy(6, 1), 6);
        Kit.is("6 of 6", x.buy(3, 2), 0);
        refused(x, () -> x.buy(1, 1));
        OsierHolt y = Kit.of("till 999");
        Kit.is("999 of 999", y.buy(1, 999), 0);
    }

    @Kit.Says(promise = 17, words = "rods are bought (1 of TILL for each FOOT of each)")
    static void eachFootCosts1() {
        OsierHolt x = Kit.of("till 99");
        Kit.is("1 of 1 foot", x.buy(1, 1), 98);
        Kit.is("1 of 6 feet", x.buy(6, 1), 92);
        Kit.is("7 of 6 feet", x.buy(6, 7), 50);
        Kit.is("store", x.store(1) * 10 + x.store(6), 18);
    }

    @Kit.Says(promise = 17, words = "or there would be more than 9999.")
    static void buyIntoAFullStore() {
        OsierHolt x = full();
        refused(x, () -> x.buy(1, 100));
        refused(x, () -> x.buy(1, 999));
        Kit.is("9999", x.buy(1, 99), 9900);
        Kit.is("store", x.store(1), 9999);
        refused(x, () -> x.buy(1, 1));
        Kit.is("others have room", x.buy(2, 1), 9898);
    }

    @Kit.Says(promise = 17, words = "IllegalArgumentException: n is none (1 to 999); IllegalStateException: TILL is too little")
    static void buyNoneOrTooMany() {
        OsierHolt x = rich();
        Kit.illegal("0", () -> x.buy(1, 0));
        Kit.illegal("-1", () -> x.buy(1, -1));
        Kit.illegal("1000", () -> x.buy(1, 1000));
        Kit.illegal("the most", () -> x.buy(6, Integer.MAX_VALUE));
        Kit.is("999", x.buy(6, 999), 9999 - 5994);
        Kit.is("1", x.buy(6, 1), 9999 - 6000);
    }

    @Kit.Says(promise = 17, words = "`int buy(int feet, int n) throws IndexOutOfBoundsException, IllegalArgumentException, IllegalStateException`")
    static void buyNoFeet() {
        OsierHolt x = Kit.of("till 0");
        Kit.outOfBounds("0 feet", () -> x.buy(0, 1));
        Kit.outOfBounds("7 feet", () -> x.buy(7, 1));
        Kit.outOfBounds("0 feet, none", () -> x.buy(0, 0));
        Kit.illegal("none, till too little", () -> x.buy(1, 1000));
    }

    // ---- promise 18

    @Kit.Says(promise = 18, words = "IllegalStateException: there are not so many.")
    static void sellAllAndOneMore() {
        OsierHolt x = Kit.of("rods 2 5;rods 3 9;till 0");
        refused(x, () -> x.sell(2, 6));
        Kit.is("5 of 5", x.sell(2, 5), 5);
        Kit.is("store", x.store(2), 0);
        refused(x, () -> x.sell(2, 1));
    }

    @Kit.Says(promise = 18, words = "(half of it, all together, rounded down)")
    static void sellForHalf() {
        OsierHolt x = Kit.of("rods 1 999;rods 5 9;till 0");
        Kit.is("1 by 2", x.sell(1, 1), 0);
        Kit.is("2 by 2", x.sell(1, 2), 1);
        Kit.is("3 by 2, together", x.sell(1, 3), 2);
        Kit.is("45 by 2", x.sell(5, 9), 24);
    }

    @Kit.Says(promise = 18, words = "Rods are sold: TILL then (9999 at most).")
    static void sellIntoAFullTill() {
        OsierHolt x = rich();
        x.buy(1, 3);
        Kit.holt(x, "rods 2 9");
        Kit.is("9996 and 2", x.sell(2, 2), 9998);
        Kit.is("9998 and 1", x.sell(2, 1), 9999);
        Kit.is("9999 and 5", x.sell(2, 5), 9999);
        Kit.is("they are sold", x.store(2), 1);
    }

    @Kit.Says(promise = 18, words = "IllegalArgumentException: n is none (1 to 999); IllegalStateException: there are not so many.")
    static void sellNoneOrTooMany() {
        OsierHolt x = full();
        Kit.illegal("0", () -> x.sell(1, 0));
        Kit.illegal("-1", () -> x.sell(1, -1));
        Kit.illegal("1000", () -> x.sell(1, 1000));
        Kit.illegal("1000 of none", () -> x.sell(2, 1000));
        x.sell(1, 999);
        x.sell(1, 1);
        Kit.is("999 and 1", x.store(1), 8900);
    }

    @Kit.Says(promise = 18, words = "`int sell(int feet, int n) throws IndexOutOfBoundsException, IllegalArgumentException, IllegalStateException`")
    static void sellNoFeet() {
        OsierHolt x = new OsierHolt();
        Kit.outOfBounds("0 feet", () -> x.sell(0, 1));
        Kit.outOfBounds("7 feet", () -> x.sell(7, 1));
        Kit.outOfBounds("7 feet, none", () -> x.sell(7, 0));
    }

    // ---- promises 19 and 20

    @Kit.Says(promise = 19, words = "IllegalArgumentException: MANY is none (1 to 9); IllegalStateException: there are 6.")
    static void takeNoneOrTooMany() {
        OsierHolt x = Kit.of(BASKET);
        Kit.illegal("0", () -> x.take(0, 0));
        Kit.illegal("10", () -> x.take(0, 10));
        Kit.illegal("-1", () -> x.take(0, -1));
        Kit.is("1", x.take(0, 1), 0);
        Kit.is("9", x.take(0, 9), 1);
        Kit.is("many", x.order(0, 1) * 10 + x.order(1, 1), 19);
    }

    @Kit.Says(promise = 19, words = "IllegalStateException: there are 6.")
    static void takeASeventh() {
        OsierHolt x = Kit.of(BASKET + ";order 0 1;order 0 1");
        for (int order = 2; order < 6; order++) {
            Kit.is("taken", x.take(0, 1), order);
        }
        refused(x, () -> x.take(0, 1));
        Kit.illegal("a 7th of none", () -> x.take(0, 0));
    }

    @Kit.Says(promise = 19, words = "what is dropped or made up stays with its number")
    static void droppedOnesAreStillThere() {
        OsierHolt x = Kit.of(BASKET + ";rods 1 8;" + Kit.hand(1, 0) + ";" + Kit.lines(6, "order 0 1"));
        x.drop(0);
        x.drop(1);
        x.make(2);
        x.years(1);
        refused(x, () -> x.take(0, 1));
        Kit.is("orders", x.count(3), 6);
        Kit.is("many", x.order(0, 1) + x.order(2, 1) + x.order(3, 1), 3);
        Kit.is("open", x.open(false), 16 + 32);
    }

    @Kit.Says(promise = 19, words = "`int take(int basket, int many) throws IndexOutOfBoundsException, IllegalArgumentException, IllegalStateException`")
    static void takeOfNoBasket() {
        OsierHolt x = Kit.of(BASKET + ";" + BASKET);
        Kit.is("the last one", x.take(1, 1), 0);
        Kit.outOfBounds("basket 2", () -> x.take(2, 1));
        Kit.outOfBounds("basket -1", () -> x.take(-1, 1));
        Kit.outOfBounds("basket 2, none", () -> x.take(2, 0));
        Kit.outOfBounds("basket 0 of none", () -> new OsierHolt().take(0, 1));
    }

    @Kit.Says(promise = 20, words = "An ORDER is dropped. IllegalStateException: it is not OPEN.")
    static void dropTwice() {
        OsierHolt x = Kit.of(BASKET + ";rods 1 8;" + Kit.hand(1, 0) + ";order 0 1;order 0 1;order 0 1");
        x.drop(2);
        refused(x, () -> x.drop(2));
        x.make(1);
        refused(x, () -> x.drop(1));
        x.years(1);
        refused(x, () -> x.drop(0));
    }

    @Kit.Says(promise = 20, words = "or dropped (not OPEN, nothing made;")
    static void nothingIsMadeOfADroppedOne() {
        OsierHolt x = Kit.of(BASKET + ";rods 1 8;order 0 1");
        x.drop(0);
        Kit.is("store, till, rows", x.store(1) * 1000 + x.count(7) * 10 + x.count(10), 8500);
    }

    @Kit.Says(promise = 20, words = "`void drop(int order) throws IndexOutOfBoundsException, IllegalStateException`")
    static void dropNoOrder() {
        OsierHolt x = Kit.of(BASKET + ";order 0 1");
        for (int order : new int[] {1, -1, 6, 32}) {
            Kit.outOfBounds("order " + order, () -> {
                x.drop(order);
                return 0;
            });
        }
    }

    // ---- promise 21

    @Kit.Says(promise = 21, words = "DAMP is told: what it was. IllegalArgumentException: n is none (0 to 9).")
    static void drainNoneOrTooMuch() {
        OsierHolt x = Kit.of(Kit.bed("osier", 1, 1, 3));
        Kit.is("9", x.drain(0, 9), 3);
        Kit.is("0", x.drain(0, 0), 9);
        Kit.is("0 again", x.drain(0, 0), 0);
        Kit.illegal("10", () -> x.drain(0, 10));
        Kit.illegal("-1", () -> x.drain(0, -1));
        Kit.is("each is an act", x.count(11), 3);
    }

    @Kit.Says(promise = 21, words = "`int drain(int bed, int n) throws IndexOutOfBoundsException, IllegalArgumentException`")
    static void drainNoBed() {
        OsierHolt x = Kit.of(Kit.bed("osier", 1, 1, 3));
        Kit.outOfBounds("bed 1", () -> x.drain(1, 0));
        Kit.outOfBounds("bed -1", () -> x.drain(-1, 0));
        Kit.outOfBounds("bed 1, 10", () -> x.drain(1, 10));
    }

    // ---- promises 22 and 23

    @Kit.Says(promise = 22, words = "IllegalArgumentException: SKILL is none (1 to 9), or WAGE (0 to 99)")
    static void hireOfNoSkillOrWage() {
        OsierHolt x = new OsierHolt();
        Kit.illegal("skill 0", () -> x.hire(0, 1));
        Kit.illegal("skill 10", () -> x.hire(10, 1));
        Kit.illegal("wage -1", () -> x.hire(1, -1));
        Kit.illegal("wage 100", () -> x.hire(1, 100));
        Kit.is("1, 0", x.hire(1, 0), 0);
        Kit.is("9, 99", x.hire(9, 99), 1);
        Kit.is("hands", x.hand(0, false) + x.hand(0, true) + x.hand(1, false) + x.hand(1, true), 109);
    }

    @Kit.Says(promise = 22, words = "IllegalStateException: there are 5.")
    static void hireASixth() {
        OsierHolt x = Kit.of(Kit.hand(1, 1) + ";" + Kit.hand(1, 1));
        for (int hand = 2; hand < 5; hand++) {
            Kit.is("hired", x.hire(1, 1), hand);
        }
        refused(x, () -> x.hire(1, 1));
        Kit.illegal("a 6th of none", () -> x.hire(0, 1));
        Kit.illegal("a 6th of no wage", () -> x.hire(1, 100));
    }

    @Kit.Says(promise = 23, words = "a hand is taught (SKILL 1 more, 9 at most; at 9, too)")
    static void teachUpTo9() {
        OsierHolt x = Kit.of(Kit.hand(7, 1));
        Kit.is("8", x.teach(0), 8);
        Kit.is("9", x.teach(0), 9);
        Kit.is("9 at most", x.teach(0), 9);
        Kit.is("skill", x.hand(0, false), 9);
        Kit.is("at 9 it is an act, too", x.count(11), 3);
    }

    @Kit.Says(promise = 23, words = "`int teach(int hand) throws IndexOutOfBoundsException`: Taught: SKILL then.")
    static void teachNoHand() {
        OsierHolt x = Kit.of(Kit.hand(7, 1) + ";" + Kit.hand(1, 1));
        Kit.is("the last one", x.teach(1), 2);
        Kit.outOfBounds("hand 2", () -> x.teach(2));
        Kit.outOfBounds("hand -1", () -> x.teach(-1));
    }

    // ---- promise 24

    @Kit.Says(promise = 24, words = "IllegalStateException: it is not OPEN, or there are not so many rods.")
    static void makeOfOneThatIsNotOpen() {
        OsierHolt x = Kit.of(BASKET + ";rods 1 99;order 0 1;order 0 1;order 0 9");
        x.drop(0);
        refused(x, () -> x.make(0));
        x.make(1);
        refused(x, () -> x.make(1));
        Kit.holt(x, Kit.hand(9, 0));
        x.years(1);
        refused(x, () -> x.make(2));
    }

    @Kit.Says(promise = 24, words = "or there are not so many rods.")
    static void makeOfTheLastRods() {
        OsierHolt x = Kit.of(BASKET + ";rods 1 11;rods 2 99;order 0 3");
        refused(x, () -> x.make(0));
        x.buy(1, 1);
        Kit.is("12 of 12", x.make(0), 49 + 21);
        Kit.is("store", x.store(1), 0);
    }

    @Kit.Says(promise = 24, words = "an ORDER is made up by hand (whatever hands there are)")
    static void makeWithoutHands() {
        OsierHolt x = Kit.of(BASKET + ";rods 1 36;order 0 9;till 0");
        Kit.is("9 times 7", x.make(0), 63);
        Kit.is("rods", x.log(0, 3), 36);
    }

    @Kit.Says(promise = 24, words = "TILL is MANY times PAYS more (9999 at most), it is OPEN no more")
    static void makeIntoAFullTill() {
        OsierHolt x = rich();
        x.buy(1, 9);
        Kit.holt(x, BASKET + ";rods 1 99;order 0 1;order 0 1");
        Kit.is("9990 and 7", x.make(0), 9997);
        Kit.is("9997 and 7", x.make(1), 9999);
    }

    @Kit.Says(promise = 24, words = "`int make(int order) throws IndexOutOfBoundsException, IllegalStateException`")
    static void makeNoOrder() {
        OsierHolt x = Kit.of(BASKET + ";rods 1 99;order 0 1");
        Kit.outOfBounds("order 1", () -> x.make(1));
        Kit.outOfBounds("order -1", () -> x.make(-1));
        Kit.outOfBounds("order 6", () -> x.make(6));
    }
}
