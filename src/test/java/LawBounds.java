/** Boundary cases of promises 5 to 7: texts of THE LAW, and what a BED has under it. */
final class LawBounds {
    private LawBounds() {
    }

    /** Whether the condition holds of the last BED of the holt. */
    private static void holds(OsierHolt x, String condition, boolean due) {
        Kit.law(x, "dear 1 if " + condition);
        Kit.is(condition, x.bed(x.count(0) - 1, 6) == 6, due);
    }

    private static OsierHolt under(String holt, String law) {
        OsierHolt x = Kit.of(holt);
        Kit.law(x, law);
        return x;
    }

    // ---- promise 5

    @Kit.Says(promise = 5, words = "`int law() throws IllegalArgumentException`: Uses the TAPE up: THE LAW: how many LINES.")
    static void theTapeIsUsedUp() {
        OsierHolt x = new OsierHolt();
        Kit.is("lines", Kit.law(x, "grow 1;rot 2;dear 3"), 3);
        Kit.is("used up by a right one", x.end(1), false);
        Kit.illegal("a wrong one", () -> Kit.law(x, "grow"));
        Kit.is("used up by a wrong one", x.end(1), false);
    }

    @Kit.Says(promise = 5, words = "THE LAW (a text, in place of the one before)")
    static void inPlaceOfTheOneBefore() {
        OsierHolt x = under("bed osier age 1 stools 1", "grow 1;grow 1;grow 1");
        Kit.is("reach", x.bed(0, 4), 4);
        Kit.is("lines", Kit.law(x, "grow 1"), 1);
        Kit.is("reach", x.bed(0, 4), 2);
        Kit.is("no line", Kit.law(x, ""), 0);
        Kit.is("reach", x.bed(0, 4), 1);
    }

    @Kit.Says(promise = 5, words = "LINE { ; LINE }, at most 12: grow")
    static void twelveLines() {
        OsierHolt x = under("bed osier age 0 stools 1", Kit.lines(12, "dear 1 if age < 1"));
        Kit.is("cost by 12 lines", x.bed(0, 6), 17);
        Kit.wrongLaw(Kit.lines(12, "dear 1") + ";^dear 1");
        Kit.wrongLaw(Kit.lines(12, "dear 1") + "; ^oops");
        Kit.wrongLaw(Kit.lines(12, "dear 1") + ";^");
    }

    @Kit.Says(promise = 5, words = "(N 0 to 99).")
    static void amounts() {
        OsierHolt x = under("bed osier age 0 stools 1", "dear 0");
        Kit.is("cost", x.bed(0, 6), 5);
        Kit.law(x, "dear 99");
        Kit.is("cost", x.bed(0, 6), 104);
        Kit.wrongLaw("grow ^100");
        Kit.wrongLaw("rot ^100 if wet");
        Kit.wrongLaw("dear ^999");
    }

    @Kit.Says(promise = 5, words = "All numbers are of 1 to 3 digits")
    static void digits() {
        OsierHolt x = under("bed osier age 0 stools 1", "dear 007");
        Kit.is("cost", x.bed(0, 6), 12);
        holds(x, "999 > 998", true);
        holds(x, "000 < 001", true);
        Kit.wrongLaw("dear ^0007");
        Kit.wrongLaw("dear 1 if ^1000 < 1");
        Kit.wrongLaw("dear 1 if age < ^0000");
        Kit.wrongLaw("dear 1 if age < 1 + ^1234");
    }

    @Kit.Says(promise = 5, words = "A text that is empty, or blanks alone, has no LINE.")
    static void aLawWithoutLines() {
        OsierHolt x = new OsierHolt();
        Kit.is("an empty one", Kit.law(x, ""), 0);
        Kit.is("blanks", Kit.law(x, "   "), 0);
        Kit.is("it is a law", x.count(5), 0);
        Kit.wrongLaw("^;");
        Kit.wrongLaw("grow 1;^;");
    }

    @Kit.Says(promise = 5, words = "Of a wrong text nothing stays.")
    static void theOneBeforeStaysBehindAWrongOne() {
        OsierHolt x = under("bed osier age 2 stools 10", "grow 1;dear 9");
        x.hire(1, 1);
        String before = Kit.state(x);
        Kit.illegal("a wrong law", () -> Kit.law(x, "grow 3;dear 1;rot 9 if oops"));
        Kit.is("state", Kit.state(x), before);
        Kit.is("reach, cost", x.bed(0, 4) * 100 + x.bed(0, 6), 314);
    }

    @Kit.Says(promise = 5, words = "( and not within one another at most 6 deep.")
    static void sixDeep() {
        Kit.rightLaw("dear 1 if ((((((wet))))))");
        Kit.rightLaw("dear 1 if not not not not not not wet");
        Kit.rightLaw("dear 1 if not(not(not(wet)))");
        Kit.rightLaw("dear 1 if (((((not wet))))) or not not not not not (wet)");
        OsierHolt x = Kit.of("bed osier age 0 stools 1;wet");
        holds(x, "((((((wet))))))", true);
        holds(x, "not not not not not not wet", true);
        holds(x, "not(not(not(wet)))", false);
    }

    @Kit.Says(promise = 5, words = "the ( or not that is a 7th one deep")
    static void sevenDeep() {
        Kit.wrongLaw("dear 1 if ((((((^(wet)))))))");
        Kit.wrongLaw("dear 1 if not not not not not not ^not wet");
        Kit.wrongLaw("dear 1 if not(not(not(^not wet)))");
        Kit.wrongLaw("dear 1 if not(not(not(^(wet))))");
        Kit.wrongLaw("dear 1 if wet or (((((wet and not ^(wet))))))");
    }

    @Kit.Says(promise = 5, words = "( and not within one another")
    static void sideBySideIsNotDeeper() {
        Kit.rightLaw("dear 1 if (wet) and (wet) and (wet) and (wet) and (wet) and (wet) and (wet) and (wet)");
        Kit.rightLaw("dear 1 if not wet or not wet or not wet or not wet or not wet or not wet or not wet");
        Kit.rightLaw("dear 1 if ((((((wet)))))) and ((((((wet))))))");
    }

    @Kit.Says(promise = 5, words = "C: ALL { or ALL }; ALL: ATOM { and ATOM }")
    static void andComesAheadOfOr() {
        OsierHolt x = Kit.of("bed osier age 0 stools 1;wet");
        holds(x, "wet or wet and ripe", true);
        holds(x, "(wet or wet) and ripe", false);
        holds(x, "ripe and wet or wet", true);
        holds(x, "ripe and (wet or wet)", false);
        holds(x, "not ripe and ripe", false);
        holds(x, "not (ripe and ripe)", true);
    }

    @Kit.Says(promise = 5, words = "SUM < SUM | SUM > SUM. SUM: PART { + PART }")
    static void sumsThatAreAlike() {
        OsierHolt x = Kit.of("bed osier age 5 stools 7");
        holds(x, "5 < age", false);
        holds(x, "5 > age", false);
        holds(x, "4 < age", true);
        holds(x, "6 > age", true);
        holds(x, "age + stools < 12", false);
        holds(x, "age + stools < 13", true);
        holds(x, "age + stools > 5 + 6", true);
        holds(x, "0 > 0 + 0", false);
    }

    @Kit.Says(promise = 5, words = "PART: NUMBER | bed | sort | age | stools | damp | till | year.")
    static void partsAtTheirBounds() {
        OsierHolt x = new OsierHolt();
        for (int k = 0; k < 4; k++) {
            Kit.holt(x, "rods 6 999");
            x.sell(6, 999);
        }
        Kit.holt(x, Kit.lines(5, "bed osier age 0 stools 1") + ";bed almond age 9 stools 99 damp 9");
        holds(x, "bed > 4 and bed < 6", true);
        holds(x, "sort > 1 and sort < 3", true);
        holds(x, "age > 8 and age < 10", true);
        holds(x, "stools > 98 and stools < 100", true);
        holds(x, "damp > 8 and damp < 10", true);
        holds(x, "till > 999 + 999 + 999 + 999 + 999 + 999 + 999 + 999 + 999 + 999 + 8", true);
        holds(x, "till > 999 + 999 + 999 + 999 + 999 + 999 + 999 + 999 + 999 + 999 + 9", false);
    }

    @Kit.Says(promise = 5, words = "Of a BED: sort 0 to 2;")
    static void sortsOfBeds() {
        holds(Kit.of("bed osier age 1 stools 1"), "sort < 1", true);
        holds(Kit.of("bed purple age 1 stools 1"), "sort > 0 and sort < 2", true);
        holds(Kit.of("bed almond age 1 stools 1"), "sort > 1 and sort < 3", true);
    }

    @Kit.Says(promise = 5, words = "grow N [ if C ] | rot N [ if C ] | dear N [ if C ].")
    static void conditionsMayBeTold() {
        OsierHolt x = Kit.of("bed osier age 3 stools 1");
        Kit.is("lines", Kit.law(x, "grow 2;rot 1;dear 4"), 3);
        Kit.is("without conditions", x.bed(0, 4) * 100 + x.bed(0, 6), 409);
        Kit.law(x, "grow 2 if age < 3;rot 1 if wet;dear 4 if crowded");
        Kit.is("with conditions that do not hold", x.bed(0, 4) * 100 + x.bed(0, 6), 305);
        Kit.law(x, "grow 2 if age < 4;rot 1 if not wet;dear 4 if not crowded");
        Kit.is("with conditions that hold", x.bed(0, 4) * 100 + x.bed(0, 6), 409);
        Kit.wrongLaw("grow 1 if ^;rot 1");
        Kit.wrongLaw("grow 1 if wet ^if wet");
    }

    @Kit.Says(promise = 5, words = "year: YEAR modulo 100;")
    static void yearsModulo100() {
        OsierHolt x = Kit.of("bed osier age 0 stools 1;year 99");
        holds(x, "year > 98 and year < 100", true);
        x.years(1);
        holds(x, "year < 1", true);
        x.years(1);
        holds(x, "year > 0 and year < 2", true);
        Kit.holt(x, "year 999");
        holds(x, "year > 98 and year < 100", true);
    }

    @Kit.Says(promise = 5, words = "ripe: AGE is 2 at least")
    static void ripe() {
        holds(Kit.of("bed osier age 1 stools 99"), "ripe", false);
        holds(Kit.of("bed osier age 2 stools 1"), "ripe", true);
        holds(Kit.of("bed osier age 9 stools 1"), "ripe", true);
        holds(Kit.of("bed osier age 1 stools 99"), "not ripe", true);
        holds(Kit.of("bed osier age 2 stools 1"), "not ripe", false);
        holds(Kit.of("bed osier age 2 stools 1;wet"), "ripe and wet", true);
    }

    @Kit.Says(promise = 5, words = "crowded: STOOLS are above 50")
    static void crowded() {
        holds(Kit.of("bed osier age 9 stools 50"), "crowded", false);
        holds(Kit.of("bed osier age 0 stools 51"), "crowded", true);
        holds(Kit.of("bed osier age 0 stools 99"), "crowded", true);
        holds(Kit.of("bed osier age 0 stools 50"), "not crowded", true);
        holds(Kit.of("bed osier age 0 stools 51"), "not crowded", false);
        holds(Kit.of("bed osier age 2 stools 51;wet"), "wet and crowded and ripe", true);
    }

    @Kit.Says(promise = 5, words = "WET or not (not at first): whether there was a flood in the year behind.")
    static void wet() {
        OsierHolt x = Kit.of("bed osier age 0 stools 1");
        holds(x, "wet", false);
        Kit.holt(x, "wet");
        holds(x, "wet", true);
        x.years(1);
        holds(x, "wet", false);
    }

    @Kit.Says(promise = 5, words = "Words are as long as a to z go on; between all there may be blanks (32), also ahead and behind.")
    static void wordsAndBlanks() {
        Kit.rightLaw("  grow1if(wet)and not(ripe)or age<1+stools ;rot 2  ");
        Kit.wrongLaw("dear 1 if ^notwet");
        Kit.wrongLaw("dear 1 if wet ^andripe");
        Kit.wrongLaw("dear 1 ^ifwet");
        Kit.wrongLaw("dear 1 if bed^2 < 3");
        Kit.wrongLaw("^growl 1");
    }

    // ---- promise 6, of a law

    @Kit.Says(promise = 6, words = "the begin of the first thing that cannot stand there")
    static void theBeginOfWhatCannotStandInALaw() {
        Kit.wrongLaw("^wet");
        Kit.wrongLaw("grow 1 ^2");
        Kit.wrongLaw("grow ^if wet");
        Kit.wrongLaw("grow 1 if (^)");
        Kit.wrongLaw("grow 1 if wet^)");
        Kit.wrongLaw("grow 1 if (wet^;grow 1");
        Kit.wrongLaw("grow 1 if age ^= 1");
        Kit.wrongLaw("grow 1 if 1 < 2 ^< 3");
        Kit.wrongLaw("grow 1 if (age^) > 1");
        Kit.wrongLaw("grow 1 if age + ^wet > 1");
        Kit.wrongLaw("grow 1 if age ^- 1 > 1");
        Kit.wrongLaw("grow 1 if wet or ^or wet");
        Kit.wrongLaw("grow 1 if wet ^< 2");
        Kit.wrongLaw("^bed osier age 1 stools 1");
    }

    @Kit.Says(promise = 6, words = "a word that is none;")
    static void aWordThatIsNoneInALaw() {
        Kit.wrongLaw("grow 1 if ^dry");
        Kit.wrongLaw("grow 1 if age < ^feet");
        Kit.wrongLaw("grow 1 ^when wet");
    }

    @Kit.Says(promise = 6, words = "or the text's length, if more must come")
    static void theLawsLength() {
        Kit.wrongLaw("grow^");
        Kit.wrongLaw("grow 1;^");
        Kit.wrongLaw("grow 1 if^");
        Kit.wrongLaw("grow 1 if not ^");
        Kit.wrongLaw("grow 1 if (^");
        Kit.wrongLaw("grow 1 if (wet ^");
        Kit.wrongLaw("grow 1 if age^");
        Kit.wrongLaw("grow 1 if age <^");
        Kit.wrongLaw("grow 1 if age + ^");
        Kit.wrongLaw("grow 1 if wet and^");
        Kit.wrongLaw("grow 1 if wet or^");
    }

    // ---- promise 7, under a law

    @Kit.Says(promise = 7, words = "REACH of a BED: AGE and the sum of N of all grow LINES that hold, less that of all rot LINES (0 to 6)")
    static void reachIs6AtMost() {
        Kit.is("age 6", Kit.of("bed osier age 6 stools 1").bed(0, 4), 6);
        Kit.is("age 7", Kit.of("bed osier age 7 stools 1").bed(0, 4), 6);
        Kit.is("5 and 1", under("bed osier age 5 stools 1", "grow 1").bed(0, 4), 6);
        Kit.is("5 and 99", under("bed osier age 5 stools 1", "grow 99").bed(0, 4), 6);
        Kit.is("9 and 99 less 103", under("bed osier age 9 stools 1", "grow 99;rot 99;rot 4").bed(0, 4), 5);
    }

    @Kit.Says(promise = 7, words = "less that of all rot LINES (0 to 6): the FEET of its rods (0: none).")
    static void reachIs0AtLeast() {
        Kit.is("3 less 3", under("bed osier age 3 stools 1", "rot 3").bed(0, 4), 0);
        Kit.is("3 less 4", under("bed osier age 3 stools 1", "rot 4").bed(0, 4), 0);
        Kit.is("3 less 4 and 2", under("bed osier age 3 stools 1", "rot 4;grow 2").bed(0, 4), 1);
        Kit.is("3 less 2", under("bed osier age 3 stools 1", "rot 2").bed(0, 4), 1);
    }

    @Kit.Says(promise = 7, words = "YIELD: twice its STOOLS (0, if REACH is 0).")
    static void yieldWithoutReach() {
        OsierHolt x = Kit.of("bed osier age 0 stools 99;bed osier age 1 stools 99");
        Kit.is("reach 0", x.bed(0, 5), 0);
        Kit.is("reach 1", x.bed(1, 5), 198);
        Kit.law(x, "rot 1;grow 1 if bed < 1;grow 1 if bed < 1");
        Kit.is("reach 1 by the law", x.bed(0, 5), 198);
        Kit.is("reach 0 by the law", x.bed(1, 5), 0);
    }

    @Kit.Says(promise = 7, words = "COST of cutting: 5 and the sum of N of all dear LINES that hold.")
    static void costWithoutAndWithLines() {
        OsierHolt x = Kit.of("bed osier age 0 stools 1");
        Kit.is("without a law", x.bed(0, 6), 5);
        Kit.law(x, "grow 9;rot 9;dear 9 if wet");
        Kit.is("without a line that holds", x.bed(0, 6), 5);
        Kit.law(x, Kit.lines(12, "dear 99"));
        Kit.is("12 of 99", x.bed(0, 6), 5 + 1188);
    }
}
