import java.util.function.Supplier;

/** Promises 1 to 6: a new object, the tape, the two texts and their first wrong byte. */
final class TextTest {
    private static final String BASKET = "basket stakes 3 rounds 1 weave 1 1 feet 1 pays 0";

    public static void main(String[] args) {
        newObject();
        tape();
        holtText();
        holtLimits();
        holtFaults();
        weaveFaults();
        lawText();
        lawWords();
        lawFaults();
        lawDepth();
        faultOfLatest();
        Kit.close();
    }

    private static void newObject() {
        Kit.part("promise 1");
        OsierHolt x = new OsierHolt();
        int[] due = {0, 0, 0, 0, 0, OsierHolt.NONE, 0, 50, 0, 0, 0, 0};
        for (int what = 0; what < due.length; what++) {
            Kit.is("count(" + what + ")", x.count(what), due[what]);
        }
        for (int feet = 1; feet <= 6; feet++) {
            Kit.is("store", x.store(feet), 0);
        }
        Kit.is("seed", x.seed(1), 1);
        Kit.is("fault", x.fault(), OsierHolt.NONE);
        Kit.is("undo", x.undo(), false);
        Kit.is("back", x.back(), false);
        Kit.is("NONE", OsierHolt.NONE, -1);
    }

    private static void tape() {
        Kit.part("promises 2, 3");
        OsierHolt x = new OsierHolt();
        for (int k = 1; k <= 20; k++) {
            Kit.is("feed", x.feed(0, 0, 0, 0, 0), 20 * k);
        }
        Kit.is("feed a 401st", x.feed(0, 0, 0, 0, 0), OsierHolt.NONE);
        Kit.is("end above", x.end(401), false);
        Kit.is("end below 0", x.end(-1), false);
        Kit.is("end of all", x.end(400), true);
        Kit.is("end", x.end(381), true);
        Kit.is("feed to 401", x.feed(0, 0, 0, 0, 0), OsierHolt.NONE);
        Kit.is("end", x.end(380), true);
        Kit.is("feed to 400", x.feed(0, 0, 0, 0, 0), 400);
        Kit.is("end at 0", x.end(0), true);
        Kit.is("end above an empty tape", x.end(1), false);

        // of each number the highest byte first, negative ones too
        x.feed(0x01020304, 0x05060748, 0, 0, 0);
        x.end(8);
        Kit.is("lengths 1 to 7 and 72", x.pieces(6), 2);
        x.feed(0xff000000, 0, 0, 0, 0);
        x.end(1);
        Kit.illegal("byte 255", () -> x.pieces(6));
        Kit.is("used up", x.end(1), false);
        x.feed(0, 0, 0, 0, 0x77657400);
        x.end(19);
        Kit.illegal("bytes 0", x::holt);
        Kit.is("fault", x.fault(), 0);
    }

    private static void holtText() {
        Kit.part("promise 4");
        OsierHolt x = new OsierHolt();
        Kit.is("a text", Kit.holt(x, " bed  purple age 4 stools 7;bed almond age9stools99damp 9 ;" + BASKET
            + "; rods 6 999;hand skill 9 wage 99;order 0 9;flood 100;till 999;year 007;wet "), 1);
        Kit.is("bed", x.bed(0, 0) * 1000 + x.bed(0, 1) * 100 + x.bed(0, 2) * 10 + x.bed(0, 3), 1470);
        Kit.is("bed", x.bed(1, 0) * 10000 + x.bed(1, 1) * 1000 + x.bed(1, 2) * 10 + x.bed(1, 3), 29999);
        Kit.is("rods", x.store(6), 999);
        Kit.is("hand", x.hand(0, false) * 100 + x.hand(0, true), 999);
        Kit.is("order", x.order(0, 0) * 100 + x.order(0, 1) * 10 + x.order(0, 2), 91);
        Kit.is("flood", x.count(6), 100);
        Kit.is("till", x.count(7), 999);
        Kit.is("year", x.count(8), 7);
        Kit.is("wet", x.count(9), 1);
        Kit.holt(x, "year 0;till 0;flood 0;rods 5 0");
        Kit.is("0 of each", x.count(6) + x.count(7) + x.count(8), 0);
        x.end(0);
        Kit.is("rods are told, not added", Kit.holt(x, "rods 6 3;bed osier age 0 stools 1;till 999"), 3);
        Kit.is("rods", x.store(6), 3);
        Kit.is("beds go on", x.count(0), 3);
        Kit.is("an empty text", Kit.holt(x, ""), 4);
        Kit.is("blanks", Kit.holt(x, "   "), 5);
        Kit.is("texts", x.count(4), 5);

        x.hire(1, 1);
        Kit.illegal("a wrong text", () -> Kit.holt(x, "till 3;wet;bed osier age 1 stools 1;rods 6 9;oops"));
        Kit.is("nothing stays", x.count(7) * 10 + x.count(0) + x.store(6) * 100000, 309993);
        Kit.is("acts are remembered", x.count(11), 1);
        Kit.is("the tape is used up", x.end(1), false);
        Kit.holt(x, "till 3");
        Kit.is("none remembered", x.count(11), 0);
        for (int k = 7; k <= 12; k++) {
            Kit.is("texts", Kit.holt(x, ""), k);
        }
        x.hire(1, 1);
        Kit.illegal("a wrong 13th", () -> Kit.holt(x, "till"));
        Kit.is("fault", x.fault(), 4);
        Kit.fails("a right 13th", UnsupportedOperationException.class, () -> Kit.holt(x, "till 5"));
        Kit.is("fault of a refused text", x.fault(), OsierHolt.NONE);
        Kit.is("nothing stays", x.count(7), 3);
        Kit.is("acts are remembered", x.count(11), 1);
        Kit.is("the tape is used up", x.end(1), false);
    }

    private static void holtLimits() {
        Kit.part("promise 4");
        String wets = "wet;wet;wet;wet;wet;wet;wet;wet;wet;wet;wet;wet;wet;wet";
        Kit.is("14 lines", Kit.holtFault(wets), OsierHolt.NONE);
        Kit.is("15 lines", Kit.holtFault(wets + "; wet"), 57);
        Kit.is("a ; behind the 14th", Kit.holtFault(wets + ";"), 56);
        OsierHolt x = Kit.of("bed osier age 0 stools 1;bed osier age 0 stools 1;bed osier age 0 stools 1",
            "bed osier age 0 stools 1;bed osier age 0 stools 1;bed osier age 0 stools 1");
        Kit.is("a 7th bed", Kit.holtFault(x, "wet; bed osier age 0 stools 1"), 5);
        for (int k = 0; k < 5; k++) {
            Kit.holt(x, BASKET + ";hand skill 1 wage 0;order 0 1");
        }
        Kit.is("a 6th basket", Kit.holtFault(x, "wet;" + BASKET), 4);
        Kit.is("a 6th hand", Kit.holtFault(x, " hand skill 1 wage 0"), 1);
        Kit.is("a 6th order", Kit.holtFault(x, "order 4 1"), OsierHolt.NONE);
        Kit.is("a 7th order", Kit.holtFault(x, "order 4 1"), 0);
    }

    private static void holtFaults() {
        Kit.part("promises 4, 6");
        Object[][] due = {
            {"bed", 3}, {"bed  ", 5}, {"bedosier age 1 stools 1", 0}, {"bed oak", 4}, {"bed osier", 9},
            {"bed osier age 10", 14}, {"bed osier age 1 stools 0", 23}, {"bed osier age 1 stools 100", 23},
            {"bed osier age 1 stools 1 damp 10", 30}, {"bed osier age 1 stools 1 wet", 25},
            {"bed osier stools 1", 10}, {"bed osier age 1 damp 1", 16}, {"bed osier age x", 14},
            {"rods 0 1", 5}, {"rods 7 1", 5}, {"rods 6 1000", 7}, {"rods 6 0999", 7}, {"rods 6", 6},
            {"hand skill 0 wage 1", 11}, {"hand skill 10", 11}, {"hand skill 9 wage 100", 18}, {"hand wage 1", 5},
            {"order 0 1", 6}, {BASKET + ";order 1 1", 55}, {BASKET + ";order 0 0", 57}, {BASKET + ";order 0 10", 57},
            {"flood 101", 6}, {"till 1000", 5}, {"year 1000", 5}, {"till -1", 5}, {"wet 1", 4}, {"wets", 0}, {"weta", 0}, {"wetz", 0}, {"wet`", 3}, {"wet{", 3},
            {"wet;", 4}, {"wet; ", 5}, {";wet", 0}, {"wet;;wet", 4}, {"Wet", 0}, {"wet\t", 3}, {"wet wet", 4},
            {"dry", 0}, {"7", 0}, {"rain;wet", 0}, {"till 5 5", 7}, {"till 5,", 6}, {"grow 1", 0},
        };
        for (Object[] row : due) {
            Kit.is("fault of " + row[0], Kit.holtFault((String) row[0]), row[1]);
        }
    }

    private static void weaveFaults() {
        Kit.part("promises 4, 6");
        String begin = "basket stakes 3 rounds 1 weave ";
        Object[][] due = {
            {"5", 31}, {"0", 31}, {"feet 1", 31}, {"1 feet 1 pays 0", 33}, {"1", 32}, {"1 1 1 feet 1", 37},
            {"1 1 1", 36}, {"1 1 1 1 1 feet 1", 41}, {"1 1 1 1 1 1 1", 43}, {"1 1 1 1 1 1 x", 43},
            {"11 1 feet 1 pays 0", 31}, {"1 1 feet 0 pays 1", 40}, {"1 1 feet 7 pays 1", 40},
            {"1 1 feet 6 pays 100", 47}, {"1 1 pays 1", 35}, {"1 1 feet 1", 41}, {"4 4 4 4 4 4 feet 6 pays 99", -1},
            {"1 4 feet1pays0", -1},
        };
        for (Object[] row : due) {
            Kit.is("fault of weave " + row[0], Kit.holtFault(begin + row[0]), row[1]);
        }
        Kit.is("stakes 2", Kit.holtFault("basket stakes 2"), 14);
        Kit.is("stakes 25", Kit.holtFault("basket stakes 25"), 14);
        Kit.is("stakes 24", Kit.holtFault("basket stakes 24"), 16);
        Kit.is("rounds 0", Kit.holtFault("basket stakes 3 rounds 0"), 23);
        Kit.is("rounds 21", Kit.holtFault("basket stakes 3 rounds 21"), 23);
        Kit.is("no stakes", Kit.holtFault("basket rounds 3"), 7);
    }

    private static void lawText() {
        Kit.part("promise 5");
        OsierHolt x = Kit.of("bed osier age 3 stools 10", "wet");
        Kit.is("an empty law", Kit.law(x, " "), 0);
        Kit.is("lines", x.count(5), 0);
        Kit.is("a law", Kit.law(x, "grow 2;rot 1 if wet; dear 99"), 3);
        Kit.is("lines", x.count(5), 3);
        Kit.is("reach", x.bed(0, 4), 4);
        Kit.is("cost", x.bed(0, 6), 104);
        x.hire(1, 1);
        Kit.illegal("a wrong law", () -> Kit.law(x, "grow 9;grow"));
        Kit.is("fault", x.fault(), 11);
        Kit.is("the tape is used up", x.end(1), false);
        Kit.is("the one before stays", x.bed(0, 4) * 10 + x.count(5), 43);
        Kit.is("acts are remembered", x.count(11), 1);
        Kit.is("in place of the one before", Kit.law(x, "rot 99"), 1);
        Kit.is("reach", x.bed(0, 4), 0);
        Kit.is("none remembered", x.count(11), 0);
        Kit.is("fault", x.fault(), OsierHolt.NONE);
        String twelve = "rot 1;rot 1;rot 1;rot 1;rot 1;rot 1;rot 1;rot 1;rot 1;rot 1;rot 1;rot 1";
        Kit.is("12 lines", Kit.law(x, twelve), 12);
        Kit.is("13 lines", Kit.lawFault(twelve + "; dear 1"), 73);
        Kit.is("a ; behind the 12th", Kit.lawFault(twelve + ";"), 72);
    }

    private static void lawWords() {
        Kit.part("promise 5");
        Object[][] due = {
            {"wet", 1}, {"not wet", 0}, {"ripe", 0}, {"crowded", 1}, {"bed > 0", 1}, {"sort > 1", 1}, {"sort < 2", 0},
            {"age > 0", 1}, {"age < 1", 0}, {"stools > 50", 1}, {"stools > 51", 0}, {"damp > 3", 1}, {"damp < 4", 0},
            {"till > 122", 1}, {"till < 123", 0}, {"year > 44", 1}, {"year < 45", 0}, {"1 + 2 + age > 3", 1},
            {"1+2+age<4", 0}, {"999 > 998 + 0", 1}, {"not wet and wet or wet", 1}, {"wet or wet and not wet", 1},
            {"(wet or wet) and not wet", 0}, {"not (wet and ripe)", 1}, {"not not wet", 1}, {"not(wet)or ripe", 0},
            {"((((((wet))))))", 1}, {"not not not not not not wet", 1}, {"not ripe and not ripe", 1},
            {"ripe or ripe or wet", 1}, {"wet and wet and ripe", 0}, {"5 < 5", 0}, {"5 > 5", 0},
        };
        OsierHolt x = Kit.of("bed osier age 5 stools 50;bed almond age 1 stools 51 damp 4;till 123;year 145;wet");
        for (Object[] row : due) {
            Kit.law(x, "dear 7 if " + row[0]);
            Kit.is("cost if " + row[0], x.bed(1, 6), 5 + 7 * (Integer) row[1]);
        }
        Kit.law(x, "grow 1 if ripe;grow 2 if crowded");
        Kit.is("a bed not crowded at 50", x.bed(0, 4), 6);
        Kit.law(x, "rot 1 if ripe;grow 2 if crowded");
        Kit.is("ripe", x.bed(0, 4), 4);
        Kit.law(x, "rot 3 if ripe");
        Kit.is("ripe at 2", Kit.of("bed osier age 2 stools 1").bed(0, 4), 2);
        OsierHolt y = Kit.of("bed osier age 2 stools 1");
        Kit.law(y, "dear 1 if ripe");
        Kit.is("ripe at 2", y.bed(0, 6), 6);
    }

    private static void lawFaults() {
        Kit.part("promises 5, 6");
        Object[][] due = {
            {"grow", 4}, {"grow 100", 5}, {"grow 0099", 5}, {"grow x", 5}, {"grows 1", 0}, {"dear 1 2", 7},
            {"rot 1 if", 8}, {"rot 1 if ", 9}, {"rot 1 iff wet", 6}, {"rot 1 if wet<2", 12}, {"rot 1 if age", 12},
            {"rot 1 if age<", 13}, {"rot 1 if age and wet", 13}, {"rot 1 if age = 1", 13}, {"rot 1 if 1000 < age", 9},
            {"rot 1 if 1 < 2 < 3", 15}, {"rot 1 if 1 + < 3", 13}, {"rot 1 if wet and", 16}, {"rot 1 if wet or or", 16},
            {"rot 1 if (wet", 13}, {"rot 1 if wet)", 12}, {"rot 1 if ()", 10}, {"rot 1 if (age) > 1", 13},
            {"rot 1 if not", 12}, {"rot 1 if notwet", 9}, {"rot 1 if wet wet", 13}, {"rot 1;", 6}, {"rot 1; ;", 7},
            {";", 0}, {"rot 1 if damp + ripe > 1", 16}, {"rot 1 if oak > 1", 9}, {"wet", 0}, {"rot 1 if wet;rot", 16},
            {"rot 1 if age < 1 and 2", 22}, {"rot 1 if - 1 < 2", 9},
        };
        for (Object[] row : due) {
            Kit.is("fault of " + row[0], Kit.lawFault((String) row[0]), row[1]);
        }
    }

    private static void lawDepth() {
        Kit.part("promise 5");
        Kit.is("six deep", Kit.lawFault("rot 1 if ((((((wet))))))"), OsierHolt.NONE);
        Kit.is("seven deep", Kit.lawFault("rot 1 if (((((((wet)))))))"), 15);
        Kit.is("six not", Kit.lawFault("rot 1 if not not not not not not wet"), OsierHolt.NONE);
        Kit.is("seven not", Kit.lawFault("rot 1 if not not not not not not not wet"), 33);
        Kit.is("mixed", Kit.lawFault("rot 1 if not(not(not(not wet)))"), 21);
        Kit.is("side by side", Kit.lawFault("rot 1 if not(not(not(wet)))and not(not(not(wet)))"), OsierHolt.NONE);
    }

    private static void faultOfLatest() {
        Kit.part("promise 6");
        OsierHolt x = new OsierHolt();
        Supplier<Object> wrong = () -> Kit.holt(x, "wet;oops");
        Kit.illegal("a wrong text", wrong);
        Kit.is("fault", x.fault(), 4);
        x.image();
        x.years(1);
        x.undo();
        x.back();
        Kit.is("it stays", x.fault(), 4);
        Kit.law(x, "");
        Kit.is("a right text", x.fault(), OsierHolt.NONE);
        x.back();
        Kit.is("going back leaves it", x.fault(), OsierHolt.NONE);
    }
}
