/** Promises 7 to 14: what beds, baskets, runs, the store, hands and orders are. */
final class StockTest {
    public static void main(String[] args) {
        beds();
        bedsUnderLaw();
        basketNumbers();
        basketWeaves();
        again();
        floatsAndDrops();
        fits();
        farFits();
        nearest();
        runs();
        overs();
        store();
        hands();
        orders();
        Kit.close();
    }

    private static void isBasket(OsierHolt x, int basket, int... due) {
        for (int what = 0; what < due.length; what++) {
            Kit.is("basket(" + basket + ", " + what + ")", x.basket(basket, what), due[what]);
        }
    }

    private static void beds() {
        Kit.part("promise 7");
        OsierHolt x = Kit.of("bed osier age 0 stools 1;bed almond age 9 stools 99 damp 9;bed purple age 6 stools 50");
        int[][] due = {{0, 0, 1, 0, 0, 0, 5, 0}, {2, 9, 99, 9, 6, 198, 5, 66}, {1, 6, 50, 0, 6, 100, 5, 33}};
        for (int bed = 0; bed < due.length; bed++) {
            for (int what = 0; what < 8; what++) {
                Kit.is("bed(" + bed + ", " + what + ")", x.bed(bed, what), due[bed][what]);
            }
        }
        Kit.is("part of one bed", Kit.of("bed osier age 0 stools 1").bed(0, 7), 100);
        Kit.outOfBounds("bed 3", () -> x.bed(3, 0));
        Kit.outOfBounds("bed -1", () -> x.bed(-1, 9));
        Kit.noSuch("what 8", () -> x.bed(0, 8));
        Kit.noSuch("what -1", () -> x.bed(0, -1));
    }

    private static void bedsUnderLaw() {
        Kit.part("promise 7");
        OsierHolt x = Kit.of("bed osier age 3 stools 10;bed purple age 1 stools 60 damp 2");
        Kit.law(x, "grow 2 if damp > 1;grow 9 if bed > 0;rot 7 if sort > 0;dear 3 if crowded;dear 4");
        Kit.is("reach", x.bed(0, 4), 3);
        Kit.is("reach 1 + 2 + 9 - 7", x.bed(1, 4), 5);
        Kit.is("cost", x.bed(0, 6), 9);
        Kit.is("cost", x.bed(1, 6), 12);
        Kit.law(x, "rot 4;grow 1 if crowded");
        Kit.is("reach is 0 at least", x.bed(0, 4), 0);
        Kit.is("yield without reach", x.bed(0, 5), 0);
        Kit.law(x, "grow 99;rot 90");
        Kit.is("reach is 6 at most, of all together", x.bed(0, 4), 6);
        Kit.is("yield", x.bed(0, 5), 20);
    }

    private static void basketNumbers() {
        Kit.part("promise 8");
        OsierHolt x = Kit.of(Kit.basket(24, 20, "4 4 4 4 4 4", 6, 99) + ";" + Kit.basket(3, 1, "1 1", 1, 0)
            + ";" + Kit.basket(5, 1, "1 2", 1, 0) + ";" + Kit.basket(6, 1, "1 2", 1, 0));
        isBasket(x, 0, 24, 20, 6, 99, 24 + 14, 24);
        isBasket(x, 1, 3, 1, 1, 0, 3 + 1, 2);
        Kit.is("need, 10 by 10", x.basket(2, 4), 6);
        Kit.is("need, 12 by 10", x.basket(3, 4), 8);
        Kit.outOfBounds("basket 4", () -> x.basket(4, 0));
        Kit.outOfBounds("basket -1", () -> x.basket(-1, 13));
        Kit.noSuch("what 13", () -> x.basket(0, 13));
        Kit.noSuch("what -1", () -> x.basket(0, -1));
    }

    private static void basketWeaves() {
        Kit.part("promises 8, 11");
        // O-- O-- over 4 stakes in 3 rounds: O--O / --O- / -O--
        OsierHolt x = Kit.of(Kit.basket(4, 3, "1 2", 2, 5) + ";" + Kit.basket(3, 2, "1 2", 2, 5)
            + ";" + Kit.basket(4, 1, "2 2", 2, 5));
        isBasket(x, 0, 4, 3, 2, 5, 4 + 2, 3, 3, 0, 2, 2, 0, 4);
        Kit.is("sound", x.sound(0), true);
        // O-- / O--
        isBasket(x, 1, 3, 2, 2, 5, 3 + 1, 3, 1, 7, 2, 2, 1, OsierHolt.NONE);
        Kit.is("sound", x.sound(1), false);
        // one round: all loose, none blind, no fit
        isBasket(x, 2, 4, 1, 2, 5, 4 + 1, 4, 1, 15, 2, 1, 0, OsierHolt.NONE);
        Kit.is("sound", x.sound(2), false);
        Kit.outOfBounds("sound(3)", () -> x.sound(3));
        Kit.outOfBounds("sound(-1)", () -> x.sound(-1));
    }

    private static void again() {
        Kit.part("promise 8");
        OsierHolt x = Kit.of(Kit.basket(3, 4, "1 1 1 1", 1, 0) + ";" + Kit.basket(3, 4, "1 2 1 2", 1, 0)
            + ";" + Kit.basket(5, 1, "4 4 4 4 4 3", 1, 0) + ";" + Kit.basket(12, 1, "4 4 4 4 4 4", 1, 0)
            + ";" + Kit.basket(12, 1, "4 4 4 4 4 3", 1, 0));
        Kit.is("runs that repeat themselves", x.basket(0, 6), 2);
        Kit.is("runs that repeat themselves", x.basket(1, 6), 1);
        Kit.is("23 places by 5 stakes", x.basket(2, 6), 23);
        Kit.is("8 places by 12 stakes", x.basket(3, 6), 2);
        Kit.is("23 places by 12 stakes", x.basket(4, 6), 23);
        Kit.is("period", x.basket(3, 5), 24);
    }

    private static void floatsAndDrops() {
        Kit.part("promise 8");
        // 2 2 over 3 stakes in 4 rounds: OO- / -OO / --O / O--
        OsierHolt x = Kit.of(Kit.basket(3, 4, "2 2", 1, 0) + ";" + Kit.basket(3, 1, "4 4", 1, 0)
            + ";" + Kit.basket(3, 2, "4 4", 1, 0) + ";" + Kit.basket(4, 5, "4 4", 1, 0)
            + ";" + Kit.basket(4, 3, "1 3 4 4", 1, 0));
        isBasket(x, 0, 3, 4, 1, 0, 3 + 3, 4, 4, 0, 2, 2, 0, 3);
        Kit.is("float ends with the last round", x.basket(1, 8), 3);
        Kit.is("float goes on from round to round", x.basket(2, 8), 4);
        Kit.is("drop", x.basket(2, 9), 2);
        // OOO / O-- : the first stake alone is loose
        Kit.is("loose", x.basket(2, 7), 1);
        Kit.is("4 4 by 4: no drop", x.basket(3, 9), 1);
        Kit.is("4 4 by 4: none blind", x.basket(3, 10), 0);
        // O--- / OOOO / ---- , and with 3 stakes: O-- / -OO / OO-
        isBasket(x, 4, 4, 3, 1, 0, 4 + 3, 12, 3, 0, 4, 2, 0, 3);
    }

    private static void fits() {
        Kit.part("promise 8");
        OsierHolt x = Kit.of(Kit.basket(10, 2, "4 4", 1, 0) + ";" + Kit.basket(10, 2, "1 2", 1, 0));
        // two rounds are sound when each stake changes: 4 stakes of 4 and 4 do; with 3: OOO/O--
        Kit.is("fit", x.basket(0, 11), 4);
        // a stake of two rounds would have to change everywhere, which 1 over and 2 under cannot do
        // among three or more stakes: O-- O-- against itself put off always has two unders together
        Kit.is("fit of 1 2 in 2 rounds", x.basket(1, 11), OsierHolt.NONE);
    }

    private static void farFits() {
        Kit.part("promise 8");
        OsierHolt x = Kit.of(Kit.basket(3, 2, "4 3 4 4 3 4", 1, 0) + ";" + Kit.basket(3, 3, "4 2 2 3 4 4", 1, 0)
            + ";" + Kit.basket(3, 5, "1 1 2 1", 1, 0));
        Kit.is("fit", x.basket(0, 11), 11);
        Kit.is("fit", x.basket(1, 11), 17);
        // O-O / O-O / -OO / -O- / OO-
        Kit.is("a blind round", x.basket(2, 10), 1);
    }

    private static void nearest() {
        Kit.part("promise 8");
        OsierHolt x = Kit.of(Kit.basket(3, 1, "1 1", 1, 0));
        Kit.is("none other", x.basket(0, 12), OsierHolt.NONE);
        Kit.holt(x, Kit.basket(3, 1, "1 2 3 4", 1, 0) + ";" + Kit.basket(3, 1, "1 2 3 3", 1, 0) + ";"
            + Kit.basket(3, 1, "2 3", 1, 0));
        Kit.is("nearest of 1 1", x.basket(0, 12), 3);
        Kit.is("nearest of 1 2 3 4", x.basket(1, 12), 2);
        Kit.is("nearest of 1 2 3 3", x.basket(2, 12), 1);
        Kit.is("nearest of 2 3: several the least", x.basket(3, 12), 0);
    }

    private static void runs() {
        Kit.part("promise 9");
        OsierHolt x = Kit.of(Kit.basket(3, 1, "1 2 3 4 2 1", 1, 0) + ";" + Kit.basket(3, 1, "4 3", 1, 0));
        int[] due = {1, 2, 3, 4, 2, 1, -1};
        for (int k = 0; k < due.length; k++) {
            Kit.is("run(0, " + k + ")", x.run(0, k), due[k]);
        }
        Kit.is("run(0, -1)", x.run(0, -1), OsierHolt.NONE);
        Kit.is("run(1, 1)", x.run(1, 1), 3);
        Kit.is("run(1, 2)", x.run(1, 2), OsierHolt.NONE);
        Kit.outOfBounds("run(2, 0)", () -> x.run(2, 0));
        Kit.outOfBounds("run(-1, 0)", () -> x.run(-1, 0));
    }

    private static void overs() {
        Kit.part("promise 10");
        OsierHolt x = Kit.of(Kit.basket(5, 3, "2 1 1 3", 1, 0));
        String due = "OO-O---" + "OO-O---" + "O";
        for (int place = 0; place < 15; place++) {
            Kit.is("over at " + place, x.over(0, place / 5, place % 5), due.charAt(place) == 'O');
        }
        Kit.illegal("round 3", () -> x.over(0, 3, 0));
        Kit.illegal("round -1", () -> x.over(0, -1, 0));
        Kit.illegal("stake 5", () -> x.over(0, 0, 5));
        Kit.illegal("stake -1", () -> x.over(0, 1, -1));
        Kit.outOfBounds("basket 1", () -> x.over(1, 9, 9));
    }

    private static void store() {
        Kit.part("promise 12");
        OsierHolt x = Kit.of("rods 1 7;rods 6 999;rods 1 8;rods 3 0");
        int[] due = {8, 0, 0, 0, 0, 999};
        for (int feet = 1; feet <= 6; feet++) {
            Kit.is("store(" + feet + ")", x.store(feet), due[feet - 1]);
        }
        Kit.outOfBounds("store(0)", () -> x.store(0));
        Kit.outOfBounds("store(7)", () -> x.store(7));
        Kit.outOfBounds("store(min)", () -> x.store(Integer.MIN_VALUE));
    }

    private static void hands() {
        Kit.part("promise 13");
        OsierHolt x = Kit.of("hand skill 9 wage 0;hand skill 1 wage 99");
        Kit.is("skill", x.hand(0, false), 9);
        Kit.is("wage", x.hand(0, true), 0);
        Kit.is("skill", x.hand(1, false), 1);
        Kit.is("wage", x.hand(1, true), 99);
        Kit.outOfBounds("hand 2", () -> x.hand(2, true));
        Kit.outOfBounds("hand -1", () -> x.hand(-1, false));
    }

    private static void orders() {
        Kit.part("promise 14");
        OsierHolt x = Kit.of(Kit.basket(3, 1, "1 1", 1, 0) + ";" + Kit.basket(5, 2, "1 1", 2, 7) + ";order 1 9;order 0 1");
        int[][] due = {{1, 9, 1, 54}, {0, 1, 1, 4}};
        for (int order = 0; order < 2; order++) {
            for (int what = 0; what < 4; what++) {
                Kit.is("order(" + order + ", " + what + ")", x.order(order, what), due[order][what]);
            }
        }
        x.drop(0);
        Kit.is("not open", x.order(0, 2), 0);
        Kit.is("it stays with its number", x.order(0, 0) * 10 + x.order(0, 1), 19);
        Kit.outOfBounds("order 2", () -> x.order(2, 4));
        Kit.outOfBounds("order -1", () -> x.order(-1, 0));
        Kit.noSuch("what 4", () -> x.order(0, 4));
        Kit.noSuch("what -1", () -> x.order(0, -1));
    }
}
