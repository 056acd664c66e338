/** Promises 25 to 47: what is reckoned from the holt as it is. */
final class ReckonTest {
    private static final String THREE_BEDS =
        "bed osier age 3 stools 10;bed purple age 1 stools 60 damp 5;bed almond age 9 stools 1";

    public static void main(String[] args) {
        gain();
        worth();
        worthOfSeveral();
        pieces();
        piecesTape();
        rods();
        found();
        look();
        foundTape();
        team();
        pairs();
        change();
        share();
        price();
        rests();
        odds();
        most();
        open();
        twinsSortsLengths();
        ahead();
        trial();
        span();
        Kit.close();
    }

    private static void gain() {
        Kit.part("promises 25, 26");
        OsierHolt x = Kit.of(THREE_BEDS + ";bed osier age 6 stools 7 damp 9;wet;flood 100;till 0");
        Kit.law(x, "grow 9;dear 99");
        int[][] due = {{0, 3, 120, 4}, {0, 0, 0, 0}, {2, 2, 14, 3}, {2, 0, 0, 0}, {2, 6, 22, 33}};
        for (int[] row : due) {
            Kit.is("gain(" + row[0] + ", " + row[1] + ")", x.gain(row[0], row[1]), row[2]);
            Kit.is("cuts(" + row[0] + ", " + row[1] + ")", x.cuts(row[0], row[1]), row[3]);
        }
        // 6 at once, then 1 to 5: cut in year 0 and 5 (6 + 5); in 6 years each cut with 6 wants 6 years behind it
        Kit.is("gain(3, 6)", x.gain(3, 6), 14 * 11);
        Kit.is("cuts(3, 6)", x.cuts(3, 6), 33);
        // one year more or less of age alike: the fewest cuts
        Kit.is("gain of a new bed", Kit.of("bed osier age 0 stools 1").gain(0, 6), 12);
        Kit.is("cuts of a new bed", Kit.of("bed osier age 0 stools 1").cuts(0, 6), 32);
        // reach is 6 at most: of several the least bits
        Kit.is("cuts of an old bed", x.cuts(3, 1), 1);
        Kit.is("age 4, 4 years", Kit.of("bed osier age 4 stools 1").gain(0, 4), 16);
        Kit.is("age 4, 4 years: cut in 0 and 3, 1 and 3", Kit.of("bed osier age 4 stools 1").cuts(0, 4), 9);
        Kit.illegal("7", () -> x.gain(0, 7));
        Kit.illegal("-1", () -> x.gain(0, -1));
        Kit.illegal("7", () -> x.cuts(0, 7));
        Kit.illegal("-1", () -> x.cuts(0, -1));
        Kit.outOfBounds("bed 4", () -> x.gain(4, 9));
        Kit.outOfBounds("bed -1", () -> x.cuts(-1, 0));
        Kit.is("no act", x.count(11), 0);
    }

    private static void worth() {
        Kit.part("promises 27, 28");
        OsierHolt none = new OsierHolt();
        Kit.is("worth of none", none.worth(), 0);
        Kit.is("fills of none", none.fills(), 0);
        // needs: 4 rods of 1 foot each, paid 5, 9 and 0
        OsierHolt x = Kit.of(Kit.basket(3, 1, "1 1", 1, 5) + ";" + Kit.basket(3, 1, "1 1", 1, 9) + ";"
            + Kit.basket(3, 1, "1 1", 2, 0) + ";rods 1 16;rods 2 50;order 0 2;order 1 1;order 0 3;order 2 1;order 1 1");
        // 16 rods: orders 0 (8 rods, 10), 1 (4, 9), 2 (12, 15), 3 (pays 0), 4 (4, 9)
        Kit.is("worth", x.worth(), 28);
        Kit.is("fills", x.fills(), 1 + 2 + 16);
        x.drop(1);
        Kit.is("worth without a dropped one", x.worth(), 24);
        Kit.is("fills", x.fills(), 4 + 16);
        x.sell(1, 16);
        Kit.is("worth without rods", x.worth(), 0);
        Kit.is("fills without worth", x.fills(), 0);
    }

    private static void worthOfSeveral() {
        Kit.part("promises 27, 28");
        // 8 rods: one order of 2 and two of 1 pay alike: the fewest
        OsierHolt x = Kit.of(Kit.basket(3, 1, "1 1", 1, 5) + ";rods 1 8;order 0 1;order 0 1;order 0 2;order 0 2");
        Kit.is("worth", x.worth(), 10);
        Kit.is("fills: the fewest, then the least", x.fills(), 4);
        OsierHolt y = Kit.of(Kit.basket(3, 1, "1 1", 1, 0) + ";rods 1 8;order 0 1");
        Kit.is("an order that pays nothing", y.worth() * 100 + y.fills(), 0);
        // feet are stored apart
        OsierHolt z = Kit.of(Kit.basket(3, 1, "1 1", 1, 5) + ";" + Kit.basket(3, 1, "1 1", 2, 6)
            + ";rods 1 4;rods 2 4;order 0 1;order 0 1;order 1 1");
        Kit.is("worth", z.worth(), 11);
        Kit.is("fills", z.fills(), 1 + 4);
    }

    private static int pieces(OsierHolt x, int feet, int... lengths) {
        Kit.feed(x, lengths);
        return x.pieces(feet);
    }

    private static void pieces() {
        Kit.part("promise 29");
        OsierHolt x = new OsierHolt();
        Kit.is("none", pieces(x, 1), 0);
        Kit.is("12 12 8 by 1", pieces(x, 1, 12, 12, 8), 3);
        Kit.is("12 12 8 by 2", pieces(x, 2, 12, 12, 8), 2);
        Kit.is("20 20 16 16 by 3", pieces(x, 3, 20, 20, 16, 16), 2);
        Kit.is("72 by 6", pieces(x, 6, 72), 1);
        Kit.is("72 by 5", pieces(x, 5, 72), OsierHolt.NONE);
        Kit.is("one too long", pieces(x, 1, 1, 13, 1), OsierHolt.NONE);
        Kit.is("eight", pieces(x, 6, 72, 72, 72, 72, 72, 72, 72, 72), 8);
        Kit.is("filling by the first that has room would take 3", pieces(x, 1, 6, 4, 4, 3, 3, 2, 2), 2);
        Kit.is("eight small", pieces(x, 1, 1, 1, 1, 1, 1, 1, 1, 5), 1);
    }

    private static void piecesTape() {
        Kit.part("promises 29, 30");
        OsierHolt x = new OsierHolt();
        int[][] wrong = {{0}, {73}, {255}, {1, 2, 0}, {1, 1, 1, 1, 1, 1, 1, 1, 1}};
        for (int[] bytes : wrong) {
            Kit.feed(x, bytes);
            Kit.illegal("pieces", () -> x.pieces(6));
            Kit.is("used up", x.end(1), false);
            Kit.feed(x, bytes);
            Kit.illegal("rod", () -> x.rod(6, 0));
            Kit.is("used up", x.end(1), false);
            Kit.feed(x, bytes);
            Kit.outOfBounds("pieces of feet 7", () -> x.pieces(7));
            Kit.is("used up", x.end(1), false);
            Kit.feed(x, bytes);
            Kit.outOfBounds("rod of feet 0", () -> x.rod(0, 0));
            Kit.is("used up", x.end(1), false);
        }
        Kit.is("fault is of texts alone", x.fault(), OsierHolt.NONE);
    }

    private static void isRods(int feet, int[] lengths, int... due) {
        OsierHolt x = new OsierHolt();
        for (int k = -1; k <= due.length; k++) {
            Kit.feed(x, lengths);
            int want = k < 0 || k == due.length ? OsierHolt.NONE : due[k];
            Kit.is("rod(" + feet + ", " + k + ")", x.rod(feet, k), want);
        }
    }

    private static void rods() {
        Kit.part("promise 30");
        isRods(2, new int[] {12, 12, 8}, 0, 0, 1);
        isRods(3, new int[] {20, 20, 16, 16}, 0, 1, 0, 1);
        isRods(1, new int[] {6, 4, 4, 3, 3, 2, 2}, 0, 0, 1, 1, 1, 0, 1);
        isRods(1, new int[] {13, 1}, -1, -1);
        isRods(1, new int[] {});
        isRods(1, new int[] {12, 11, 1, 12, 1, 1, 1, 1}, 0, 1, 1, 2, 3, 3, 3, 3);
        // 6 goes with 5, but then 6 and 7 want a rod each
        isRods(1, new int[] {6, 5, 6, 7}, 0, 1, 0, 1);
        isRods(6, new int[] {72, 72, 72, 72, 72, 72, 72, 72}, 0, 1, 2, 3, 4, 5, 6, 7);
    }

    private static int found(OsierHolt x, boolean first, int... rows) {
        Kit.feed(x, rows);
        return x.found(first);
    }

    private static void found() {
        Kit.part("promise 31");
        OsierHolt x = new OsierHolt();
        Kit.is("none told", found(x, false), 80);
        Kit.is("the first", found(x, true), 110);
        Kit.is("0 is over", found(x, true, 0, 1), 110);
        Kit.is("0 is not over", found(x, true, 0, 0), 111);
        // of each A, B just A of the A and B places are over at 0
        Kit.is("0 is over", found(x, false, 0, 1), 4 * (1 + 2 + 3 + 4));
        Kit.is("one place both ways", found(x, false, 7, 1, 7, 0), 0);
        Kit.is("one place both ways", found(x, true, 7, 1, 7, 0), OsierHolt.NONE);
        Kit.is("told twice", found(x, false, 7, 1, 7, 1), 40);
        Kit.is("OOOO----", found(x, true, 0, 1, 1, 1, 2, 1, 3, 1, 4, 0, 5, 0, 6, 0, 7, 0), 440);
        Kit.is("OOOO----", found(x, false, 0, 1, 1, 1, 2, 1, 3, 1, 4, 0, 5, 0, 6, 0, 7, 0), 1);
        Kit.is("O----OOO", found(x, true, 0, 1, 1, 0, 2, 0, 3, 0, 4, 0, 5, 1, 6, 1, 7, 1), 342);
        Kit.is("O----OOO", found(x, false, 0, 1, 1, 0, 2, 0, 3, 0, 4, 0, 5, 1, 6, 1, 7, 1), 2);
        Kit.is("O----OOOO", found(x, true, 0, 1, 1, 0, 2, 0, 3, 0, 4, 0, 5, 1, 6, 1, 7, 1, 8, 1), 443);
        Kit.is("five over", found(x, false, 0, 1, 1, 1, 2, 1, 3, 1, 4, 1), 0);
        Kit.is("place 99", found(x, true, 99, 1), 111);
    }

    private static int look(OsierHolt x, int... rows) {
        Kit.feed(x, rows);
        return x.look();
    }

    private static void look() {
        Kit.part("promise 32");
        OsierHolt x = new OsierHolt();
        Kit.is("none told", look(x), 0);
        Kit.is("0 is told", look(x, 0, 1) > 0, true);
        Kit.is("one that fits", look(x, 0, 1, 1, 1, 2, 1, 3, 1, 4, 0, 5, 0, 6, 0, 7, 0), OsierHolt.NONE);
        Kit.is("none that fits", look(x, 0, 1, 0, 0), OsierHolt.NONE);
        // OOOO---: three or four under: place 7 parts them; 11 is over with 3 alone ... the least is 7
        Kit.is("OOOO---", look(x, 0, 1, 1, 1, 2, 1, 3, 1, 4, 0, 5, 0, 6, 0), 7);
    }

    private static void foundTape() {
        Kit.part("promises 31, 32");
        OsierHolt x = new OsierHolt();
        int[] tooMany = new int[42];
        int[][] wrong = {{0}, {100, 1}, {0, 2}, {1, 1, 200, 0}, {1, 1, 2, 255}, {1, 1, 2}, tooMany};
        for (int[] bytes : wrong) {
            Kit.feed(x, bytes);
            Kit.illegal("found", () -> x.found(false));
            Kit.is("used up", x.end(1), false);
            Kit.feed(x, bytes);
            Kit.illegal("found first", () -> x.found(true));
            Kit.feed(x, bytes);
            Kit.illegal("look", x::look);
            Kit.is("used up", x.end(1), false);
        }
        Kit.is("40 bytes", found(x, false, new int[40]), 40);
    }

    private static void team() {
        Kit.part("promise 33");
        OsierHolt none = new OsierHolt();
        Kit.is("none", none.team(OsierHolt.NONE), 0);
        Kit.outOfBounds("hand 0 of none", () -> none.team(0));
        OsierHolt x = Kit.of(Kit.basket(3, 1, "1 1", 1, 7) + ";" + Kit.basket(3, 1, "1 1", 1, 20) + ";"
            + Kit.basket(3, 1, "1 1", 1, 0) + ";hand skill 2 wage 1;hand skill 9 wage 1;hand skill 5 wage 1;"
            + "order 0 9;order 1 1;order 2 9;order 0 1");
        Kit.is("the most", x.team(-1), 9 * 20 + 5 * 7 + 2 * 7);
        Kit.is("hand 0", x.team(0), 0);
        Kit.is("hand 1", x.team(1), 1);
        Kit.is("hand 2", x.team(2), 3);
        x.drop(0);
        x.drop(3);
        Kit.is("the most", x.team(-1), 180);
        Kit.is("an order that pays nothing is none", x.team(0), OsierHolt.NONE);
        Kit.is("hand 1", x.team(1), 1);
        Kit.outOfBounds("hand 3", () -> x.team(3));
        Kit.outOfBounds("hand -2", () -> x.team(-2));
        OsierHolt y = Kit.of(Kit.basket(3, 1, "1 1", 1, 3) + ";hand skill 4 wage 1;hand skill 4 wage 1;order 0 1");
        Kit.is("none is the least", y.team(0), OsierHolt.NONE);
        Kit.is("so the other one", y.team(1), 0);
    }

    private static void pairs() {
        Kit.part("promise 34");
        OsierHolt none = new OsierHolt();
        Kit.is("none", none.pairs(OsierHolt.NONE), 0);
        Kit.outOfBounds("bed 0 of none", () -> none.pairs(0));
        OsierHolt x = Kit.of(THREE_BEDS);
        int[] due = {70, 1, 0, OsierHolt.NONE};
        for (int bed = -1; bed < 3; bed++) {
            Kit.is("pairs(" + bed + ")", x.pairs(bed), due[bed + 1]);
        }
        Kit.outOfBounds("bed 3", () -> x.pairs(3));
        Kit.outOfBounds("bed -2", () -> x.pairs(-2));
        OsierHolt like = Kit.of("bed osier age 3 stools 10;bed osier age 1 stools 60");
        Kit.is("of one sort", like.pairs(-1) * 10 + like.pairs(0), -1);
        OsierHolt six = Kit.of("bed osier age 0 stools 1;bed osier age 0 stools 2;bed osier age 0 stools 3;"
            + "bed purple age 0 stools 4;bed purple age 0 stools 5;bed almond age 0 stools 6");
        int[] all = {21, 3, 4, 5, 0, 1, 2};
        for (int bed = -1; bed < 6; bed++) {
            Kit.is("pairs(" + bed + ") of six", six.pairs(bed), all[bed + 1]);
        }
        OsierHolt odd = Kit.of("bed osier age 0 stools 5;bed osier age 0 stools 5;bed purple age 0 stools 4");
        Kit.is("none is the least", odd.pairs(0), OsierHolt.NONE);
        Kit.is("the other one", odd.pairs(1) * 10 + odd.pairs(2), 21);
    }

    private static void change() {
        Kit.part("promise 35");
        String[] weaves = {"1 1", "2 1", "1 2 1 2 1 2", "2 1 2 1", "4 4 4 4"};
        int[][] due = {{0, 1, 4, 2, 4}, {1, 0, 4, 2, 4}, {4, 4, 0, 2, 6}, {2, 2, 2, 0, 4}, {4, 4, 6, 4, 0}};
        OsierHolt x = new OsierHolt();
        for (String weave : weaves) {
            Kit.holt(x, Kit.basket(3, 1, weave, 1, 1));
        }
        for (int one = 0; one < 5; one++) {
            for (int other = 0; other < 5; other++) {
                Kit.is("change(" + one + ", " + other + ")", x.change(one, other), due[one][other]);
            }
        }
        Kit.outOfBounds("basket 5", () -> x.change(5, 0));
        Kit.outOfBounds("basket 5", () -> x.change(0, 5));
        Kit.outOfBounds("basket -1", () -> x.change(0, -1));
    }

    private static void share() {
        Kit.part("promise 36");
        OsierHolt x = Kit.of("hand skill 9 wage 0;hand skill 5 wage 0;hand skill 2 wage 0");
        // 9 5 2 / 4 .. / 3, 2: 9 5 4 3 2 2 2 2 then ones
        int[][] due = {{0, 0, 0}, {1, 0, 0}, {1, 1, 0}, {2, 1, 0}, {3, 1, 0}, {4, 1, 0}, {4, 2, 0}, {4, 2, 1}, {5, 2, 1}};
        for (int n = 0; n < due.length; n++) {
            for (int hand = 0; hand < 3; hand++) {
                Kit.is("share(" + hand + ", " + n + ")", x.share(hand, n), due[n][hand]);
            }
        }
        Kit.is("all ones, then all zeros to the first", x.share(0, 99), 99 - 5 - 2);
        Kit.illegal("-1", () -> x.share(0, -1));
        Kit.illegal("100", () -> x.share(0, 100));
        Kit.outOfBounds("hand 3", () -> x.share(3, 100));
        Kit.outOfBounds("hand -1", () -> x.share(-1, 0));
    }

    private static void price() {
        Kit.part("promise 37");
        OsierHolt x = Kit.of(Kit.basket(3, 1, "1 1", 2, 10) + ";" + Kit.basket(3, 1, "1 1", 2, 20) + ";"
            + Kit.basket(3, 1, "1 1", 2, 6) + ";" + Kit.basket(3, 1, "1 1", 3, 99) + ";" + Kit.basket(3, 1, "1 1", 4, 0));
        Kit.is("20 by one and 10 by two are alike", x.price(2), 10);
        Kit.is("99", x.price(3), 99);
        Kit.is("0", x.price(4), 0);
        Kit.is("without baskets", x.price(1), 0);
        Kit.outOfBounds("feet 0", () -> x.price(0));
        Kit.outOfBounds("feet 7", () -> x.price(7));
    }

    private static void rests() {
        Kit.part("promise 38");
        OsierHolt x = Kit.of("bed osier age 3 stools 1;bed osier age 0 stools 1;bed osier age 0 stools 1 damp 1");
        Kit.is("cutting at the rising", x.rests(0), 1);
        Kit.is("reach 0 and damp 0: waiting, too", x.rests(1), 5);
        Kit.is("damp 1", x.rests(2), 1);
        Kit.law(x, "rot 9");
        Kit.is("reach by the law", x.rests(0), 5);
        Kit.outOfBounds("bed 3", () -> x.rests(3));
        Kit.outOfBounds("bed -1", () -> x.rests(-1));
    }

    private static void odds() {
        Kit.part("promise 39");
        OsierHolt x = Kit.of("flood 33");
        Kit.is("0 of 0", x.odds(0, 0), 10000);
        Kit.is("1 of 0", x.odds(0, 1), 0);
        Kit.is("1 of 1", x.odds(1, 1), 3300);
        Kit.is("1 of 2", x.odds(2, 1), 5511);
        Kit.is("2 of 2", x.odds(2, 2), 1089);
        Kit.is("2 of 3", x.odds(3, 2), 2548);
        Kit.is("5 of 5", x.odds(5, 5), 39);
        Kit.is("0 of 5", x.odds(5, 0), 10000);
        OsierHolt y = new OsierHolt();
        Kit.is("without floods", y.odds(5, 1) + y.odds(5, 0), 10000);
        Kit.holt(y, "flood 100");
        Kit.is("always", y.odds(5, 5), 10000);
        Kit.is("more than there are", y.odds(4, 5), 0);
        int[][] wrong = {{6, 0}, {-1, 0}, {0, 6}, {0, -1}};
        for (int[] row : wrong) {
            Kit.illegal("odds(" + row[0] + ", " + row[1] + ")", () -> x.odds(row[0], row[1]));
        }
    }

    private static void most() {
        Kit.part("promise 40");
        OsierHolt x = new OsierHolt();
        for (int what = 0; what < 3; what++) {
            Kit.is("most of none", x.most(what), OsierHolt.NONE);
        }
        Kit.holt(x, "bed osier age 0 stools 9;bed osier age 4 stools 1;bed osier age 4 stools 2;"
            + Kit.basket(3, 1, "1 1", 6, 0) + ";" + Kit.basket(4, 1, "1 1", 1, 2) + ";" + Kit.basket(4, 1, "1 1", 1, 2)
            + ";hand skill 3 wage 1;hand skill 2 wage 9;hand skill 3 wage 3");
        Kit.is("oldest", x.most(0), 1);
        Kit.is("richest", x.most(1), 1);
        Kit.is("ablest", x.most(2), 0);
        Kit.noSuch("what 3", () -> x.most(3));
        Kit.noSuch("what -1", () -> x.most(-1));
    }

    private static void open() {
        Kit.part("promise 41");
        OsierHolt x = Kit.of(Kit.basket(3, 1, "1 1", 1, 5) + ";rods 1 8;order 0 1;order 0 2;order 0 3;order 0 2");
        x.drop(1);
        Kit.is("open", x.open(false), 1 + 4 + 8);
        Kit.is("can", x.open(true), 1 + 8);
        x.sell(1, 1);
        Kit.is("can", x.open(true), 1);
    }

    private static void twinsSortsLengths() {
        Kit.part("promises 42, 43, 44");
        OsierHolt x = Kit.of("bed osier age 3 stools 1;bed purple age 3 stools 1;bed osier age 3 stools 9 damp 2;"
            + "bed osier age 2 stools 1;bed purple age 3 stools 4;bed osier age 3 stools 5;rods 1 1;rods 6 9;rods 2 0");
        Kit.is("twins", x.twins(), 4);
        Kit.is("osier", x.sort(0), 1 + 4 + 8 + 32);
        Kit.is("purple", x.sort(1), 2 + 16);
        Kit.is("almond", x.sort(2), 0);
        Kit.outOfBounds("sort 3", () -> x.sort(3));
        Kit.outOfBounds("sort -1", () -> x.sort(-1));
        Kit.is("lengths", x.lengths(), 1 + 32);
        x.sell(1, 1);
        Kit.is("lengths", x.lengths(), 32);
    }

    private static void ahead() {
        Kit.part("promise 45");
        OsierHolt x = Kit.of("bed osier age 2 stools 51 damp 9;bed osier age 9 stools 3;bed osier age 8 stools 60;flood 100;wet");
        int[][] due = {{0, 0, 2, 51}, {0, 6, 8, 51}, {0, 7, 9, 50}, {0, 9, 9, 48}, {0, 60, 9, 1}, {1, 0, 9, 3},
            {1, 1, 9, 2}, {1, 2, 9, 1}, {1, 3, 9, 1}, {2, 0, 8, 60}, {2, 1, 9, 59}, {2, 58, 9, 2}, {2, 60, 9, 1}};
        for (int[] row : due) {
            Kit.is("ahead(" + row[0] + ", " + row[1] + ", false)", x.ahead(row[0], row[1], false), row[2]);
            Kit.is("ahead(" + row[0] + ", " + row[1] + ", true)", x.ahead(row[0], row[1], true), row[3]);
        }
        Kit.is("no draws", x.seed(1), 1);
        Kit.illegal("61", () -> x.ahead(0, 61, true));
        Kit.illegal("-1", () -> x.ahead(0, -1, false));
        Kit.outOfBounds("bed 3", () -> x.ahead(3, 61, true));
        Kit.outOfBounds("bed -1", () -> x.ahead(-1, 0, false));
    }

    private static void trial() {
        Kit.part("promise 46");
        OsierHolt x = Kit.of(Kit.basket(3, 1, "1 1", 1, 5) + ";rods 1 8;order 0 1;order 0 2;order 0 1;hand skill 1 wage 2;"
            + "bed osier age 9 stools 9;flood 50");
        Kit.is("0 years", x.trial(0, false), 50);
        Kit.is("0 years", x.trial(0, true), 7);
        Kit.is("till", x.trial(3, false), 50 - 6 + 10);
        Kit.is("open", x.trial(3, true), 2);
        Kit.is("60 years", x.trial(60, false), 0);
        Kit.is("nothing stays", x.count(7) * 1000 + x.count(8) * 100 + x.open(false) * 10 + x.count(11), 50070);
        Kit.is("no log", x.count(10), 0);
        Kit.is("no stools", x.bed(0, 2), 9);
        Kit.is("no wet", x.count(9), 0);
        Kit.illegal("61", () -> x.trial(61, false));
        Kit.illegal("-1", () -> x.trial(-1, true));
    }

    private static void span() {
        Kit.part("promise 47");
        OsierHolt x = Kit.of(Kit.basket(3, 1, "1 1", 1, 5) + ";rods 1 8;order 0 1;hand skill 1 wage 2");
        x.seed(77);
        Kit.is("the least", x.span(2, false), 51);
        Kit.is("the greatest", x.span(2, true), 51);
        Kit.is("0 years", x.span(0, false), 50);
        Kit.is("nothing stays", x.seed(1), 77);
        Kit.is("till", x.count(7), 50);
        Kit.illegal("61", () -> x.span(61, false));
        Kit.illegal("-1", () -> x.span(-1, true));
    }
}
