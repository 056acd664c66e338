/** Boundary cases of promises 48 to 54, and of all calls that are refused: the log, the seed, going back, counting. */
final class BackBounds {
    // a need of 4 rods
    private static final String BASKET = Kit.basket(3, 1, "1 1", 1, 7);

    private BackBounds() {
    }

    /** A bed that may be cut again and again, for nothing but 5 of the till. */
    private static OsierHolt cutter() {
        OsierHolt x = Kit.of("bed osier age 1 stools 1;bed osier age 1 stools 3;till 999");
        Kit.law(x, "grow 1");
        return x;
    }

    // ---- promise 48

    @Kit.Says(promise = 48, words = "LED: how many rows (0) of THE LOG are of a BED; the YEAR of the latest (none).")
    static void ledOfNoRows() {
        OsierHolt x = Kit.of("bed osier age 1 stools 1;bed osier age 1 stools 1");
        Kit.is("rows", x.led(0, false), 0);
        Kit.is("year", x.led(0, true), OsierHolt.NONE);
        x.cut(1);
        Kit.is("of the other one", x.led(0, false) * 10 + x.led(0, true), -1);
        Kit.is("of the one", x.led(1, false) * 10 + x.led(1, true), 10);
    }

    @Kit.Says(promise = 48, words = "how many rows (0) of THE LOG are of a BED")
    static void ordersAreNotLed() {
        OsierHolt x = Kit.of("bed osier age 1 stools 1;" + BASKET + ";rods 1 8;order 0 1;order 0 1;" + Kit.hand(1, 0));
        x.make(0);
        Kit.is("order 0 by hand", x.led(0, false), 0);
        x.years(1);
        Kit.is("a row of order 1", x.count(10), 2);
        Kit.is("years", x.led(0, true), OsierHolt.NONE);
        x.cut(0);
        Kit.is("rows", x.led(0, false), 1);
    }

    @Kit.Says(promise = 48, words = "the YEAR of the latest (none)")
    static void ledOfTheLatestYear() {
        OsierHolt x = cutter();
        x.cut(0);
        x.years(3);
        x.cut(0);
        x.years(4);
        x.cut(1);
        Kit.is("year", x.led(0, true), 3);
        Kit.is("year", x.led(1, true), 7);
    }

    @Kit.Says(promise = 48, words = "`int led(int bed, boolean year) throws IndexOutOfBoundsException`")
    static void ledOfNoBed() {
        OsierHolt x = cutter();
        Kit.outOfBounds("2", () -> x.led(2, false));
        Kit.outOfBounds("-1", () -> x.led(-1, true));
    }

    // ---- promise 49

    @Kit.Says(promise = 49, words = "THE LOG so many ago (0 the latest) what 0 YEAR, 1 the BED or the ORDER, 2 0 to 2, 3 rods; NONE without.")
    static void rowsThatAreNot() {
        OsierHolt x = cutter();
        for (int what = 0; what < 4; what++) {
            Kit.is("of no rows, " + what, x.log(0, what), OsierHolt.NONE);
        }
        x.cut(1);
        x.cut(0);
        Kit.is("the latest", Kit.row(x, 0), "0/0/0/2");
        Kit.is("the first", Kit.row(x, 1), "0/1/0/6");
        Kit.is("none ahead of it", Kit.row(x, 2), "-1/-1/-1/-1");
        Kit.is("-1", x.log(-1, 0), OsierHolt.NONE);
        Kit.is("the least", x.log(Integer.MIN_VALUE, 0), OsierHolt.NONE);
        Kit.is("the most", x.log(Integer.MAX_VALUE, 3), OsierHolt.NONE);
    }

    @Kit.Says(promise = 49, words = "NONE without. NoSuchElementException: another what.")
    static void anotherWhatOfTheLog() {
        OsierHolt x = cutter();
        x.cut(0);
        Kit.is("3", x.log(0, 3), 2);
        Kit.noSuch("4", () -> x.log(0, 4));
        Kit.noSuch("-1", () -> x.log(0, -1));
        Kit.noSuch("4 of no row", () -> x.log(9, 4));
    }

    @Kit.Says(promise = 49, words = "the latest 60 BEDS cut (0), ORDERS made up in a YEAR (1) or by hand (2)")
    static void sixtyRows() {
        OsierHolt x = cutter();
        Kit.holt(x, BASKET + ";rods 1 99;order 0 1;order 0 2;" + Kit.hand(1, 0));
        x.years(1);
        x.make(1);
        for (int k = 0; k < 58; k++) {
            x.cut(0);
        }
        Kit.is("rows", x.count(10), 60);
        Kit.is("the first", Kit.row(x, 59), "0/0/1/4");
        Kit.is("the second", Kit.row(x, 58), "1/1/2/8");
        Kit.is("none ahead", x.log(60, 0), OsierHolt.NONE);
        x.cut(1);
        Kit.is("60 at most", x.count(10), 60);
        Kit.is("the second is the first", Kit.row(x, 59), "1/1/2/8");
        Kit.is("none ahead", x.log(60, 0), OsierHolt.NONE);
        x.cut(1);
        Kit.is("a cut is the first", Kit.row(x, 59), "1/0/0/2");
        Kit.is("led", x.led(0, false), 58);
        x.cut(1);
        Kit.is("led", x.led(0, false), 57);
        x.undo();
        Kit.is("undone", x.led(0, false), 58);
    }

    @Kit.Says(promise = 49, words = "YEAR, the BED or the ORDER, 0 to 2, rods that came in, or went.")
    static void theYearOfARow() {
        OsierHolt x = Kit.of("year 8;till 6;" + BASKET + ";rods 1 99;order 0 1;order 0 2;" + Kit.hand(1, 2));
        x.years(1);
        Kit.is("the year is 1 more behind it", Kit.row(x, 0), "8/0/1/4");
        x.teach(0);
        x.years(2);
        Kit.is("in the first of two years", Kit.row(x, 0), "9/1/1/8");
    }

    @Kit.Says(promise = 49, words = "THE LOG: in the order in which it came about")
    static void ordersOfOneYearByNumbers() {
        OsierHolt x = Kit.of(BASKET + ";rods 1 99;order 0 3;order 0 1;order 0 2;" + Kit.hand(3, 0));
        x.drop(1);
        x.years(1);
        Kit.is("order 2", Kit.row(x, 0), "0/2/1/8");
        Kit.is("order 0", Kit.row(x, 1), "0/0/1/12");
        Kit.is("rows", x.count(10), 2);
    }

    // ---- promise 50

    @Kit.Says(promise = 50, words = "`int seed(int n)`: SEED: what it was.")
    static void anySeed() {
        OsierHolt x = new OsierHolt();
        Kit.is("1 at first", x.seed(0), 1);
        Kit.is("0", x.seed(-1), 0);
        Kit.is("-1", x.seed(Integer.MIN_VALUE), -1);
        Kit.is("the least", x.seed(Integer.MAX_VALUE), Integer.MIN_VALUE);
        Kit.is("the most", x.seed(1), Integer.MAX_VALUE);
    }

    @Kit.Says(promise = 50, words = "ACTS: YEARS; a BED is cut")
    static void aSeedToldIsNoAct() {
        OsierHolt x = new OsierHolt();
        x.seed(5);
        Kit.is("acts", x.count(11), 0);
        Kit.is("none to undo", x.undo(), false);
        Kit.is("it stays", x.seed(1), 5);
    }

    // ---- promise 51

    @Kit.Says(promise = 51, words = "(12 are remembered;")
    static void twelveActs() {
        OsierHolt x = new OsierHolt();
        for (int act = 1; act <= 12; act++) {
            x.buy(1, 1);
            Kit.is("acts", x.count(11), act);
        }
        for (int act = 11; act >= 0; act--) {
            Kit.is("undo", x.undo(), true);
            Kit.is("acts, rods", x.count(11) * 100 + x.store(1), act * 101);
        }
        Kit.is("no 13th", x.undo(), false);
    }

    @Kit.Says(promise = 51, words = "an ACT that went as the thirteenth came is remembered no more")
    static void theThirteenthAct() {
        OsierHolt x = new OsierHolt();
        for (int act = 1; act <= 13; act++) {
            x.buy(1, 1);
        }
        Kit.is("12 are remembered", x.count(11), 12);
        x.undo();
        Kit.is("11 then", x.count(11), 11);
        for (int act = 0; act < 11; act++) {
            Kit.is("undo", x.undo(), true);
        }
        Kit.is("the first one is remembered no more", x.undo(), false);
        Kit.is("rods", x.store(1), 1);
    }

    @Kit.Says(promise = 51, words = "UNDONE: the latest ACT not undone yet")
    static void actsBetweenUndoing() {
        OsierHolt x = new OsierHolt();
        for (int act = 1; act <= 20; act++) {
            x.buy(1, 1);
        }
        for (int act = 0; act < 5; act++) {
            x.undo();
        }
        Kit.is("rods", x.store(1), 15);
        for (int act = 0; act < 4; act++) {
            x.buy(2, 1);
        }
        Kit.is("acts", x.count(11), 11);
        int undone = 0;
        while (undone < 20 && x.undo()) {
            undone++;
        }
        Kit.is("undone", undone, 11);
        Kit.is("rods", x.store(1) * 10 + x.store(2), 80);
    }

    @Kit.Says(promise = 51, words = "YEARS of one call are one")
    static void yearsOfOneCall() {
        OsierHolt x = new OsierHolt();
        x.years(60);
        x.years(2);
        Kit.is("acts", x.count(11), 2);
        x.undo();
        Kit.is("year", x.count(8), 60);
        x.undo();
        Kit.is("year", x.count(8), 0);
    }

    @Kit.Says(promise = 51, words = "`boolean undo()`: UNDONE: whether there was one.")
    static void noneToUndo() {
        OsierHolt x = Kit.of("till 9;bed osier age 1 stools 1");
        String before = Kit.state(x);
        Kit.is("undo", x.undo(), false);
        Kit.is("nothing happens", Kit.state(x), before);
        x.teach(x.hire(1, 1));
        Kit.is("two", x.undo(), true);
        Kit.is("one", x.undo(), true);
        Kit.is("none", x.undo(), false);
        Kit.is("nothing happens", Kit.state(x), before);
    }

    @Kit.Says(promise = 51, words = "A text, going back: none are remembered.")
    static void textsAndGoingBackForget() {
        OsierHolt x = new OsierHolt();
        x.hire(1, 1);
        Kit.holt(x, "");
        Kit.is("a text of the holt", x.undo(), false);
        x.teach(0);
        Kit.law(x, "");
        Kit.is("a text of the law", x.undo(), false);
        x.teach(0);
        x.image();
        Kit.is("keeping the image does not", x.count(11), 1);
        x.teach(0);
        x.back();
        Kit.is("going back", x.undo(), false);
        Kit.is("skill", x.hand(0, false), 3);
    }

    @Kit.Says(promise = 51, words = "a call that throws changes nothing but the TAPE")
    static void refusedTextsAndActsAreNotRemembered() {
        OsierHolt x = new OsierHolt();
        for (int text = 0; text < 12; text++) {
            Kit.holt(x, "");
        }
        x.hire(1, 1);
        Kit.illegal("a wrong text", () -> Kit.holt(x, "oops"));
        Kit.illegal("a wrong law", () -> Kit.law(x, "oops"));
        Kit.fails("a 13th text", UnsupportedOperationException.class, () -> Kit.holt(x, ""));
        Kit.illegal("no years", () -> x.years(0));
        Kit.impossible("too many rods", () -> x.buy(6, 999));
        Kit.outOfBounds("no hand", () -> x.teach(1));
        Kit.is("acts", x.count(11), 1);
        x.undo();
        Kit.is("hands", x.count(2), 0);
    }

    @Kit.Says(promise = 51, words = "all is as ahead of it (but for the TAPE, fault(), THE IMAGE;")
    static void undoLeavesTapeFaultAndImage() {
        OsierHolt x = new OsierHolt();
        x.hire(1, 1);
        x.image();
        x.hire(2, 2);
        Kit.illegal("a wrong text", () -> Kit.holt(x, "oops"));
        Kit.feed(x, 12, 12, 12);
        x.undo();
        x.undo();
        Kit.is("the tape", x.pieces(1), 3);
        Kit.is("the fault", x.fault(), 0);
        Kit.is("the image", x.back(), true);
        Kit.is("hands", x.count(2), 1);
    }

    @Kit.Says(promise = 51, words = "all is as ahead of it")
    static void eachActIsUndone() {
        OsierHolt x = Kit.of(Kit.bed("osier", 1, 9, 5) + ";" + Kit.bed("osier", 9, 9, 0) + ";" + BASKET
            + ";rods 1 99;order 0 1;order 0 2;order 0 3;flood 60;" + Kit.hand(1, 1));
        String[] before = new String[11];
        Runnable[] acts = {() -> x.years(9), () -> x.cut(0), () -> x.buy(2, 3), () -> x.sell(1, 7), () -> x.take(0, 4),
            () -> x.drop(1), () -> x.drain(0, 3), () -> x.hire(9, 9), () -> x.teach(0), () -> x.make(2), () -> x.years(1)};
        for (int act = 0; act < acts.length; act++) {
            before[act] = Kit.state(x);
            acts[act].run();
        }
        Kit.is("acts", x.count(11), acts.length);
        for (int act = acts.length - 1; act >= 0; act--) {
            Kit.is("undo", x.undo(), true);
            Kit.is("as ahead of act " + act, Kit.state(x), before[act]);
        }
    }

    @Kit.Says(promise = 51, words = "all is as ahead of it (but for the TAPE")
    static void theSeedIsAsAheadOfTheAct() {
        OsierHolt x = new OsierHolt();
        x.seed(5);
        x.years(3);
        x.undo();
        Kit.is("of years", x.seed(6), 5);
        x.hire(1, 1);
        x.seed(7);
        x.undo();
        Kit.is("told behind the act", x.seed(1), 6);
    }

    // ---- promises 52 and 53

    @Kit.Says(promise = 52, words = "THE IMAGE (one) of all may be kept, and gone back to")
    static void theLatestImageIsTheOne() {
        OsierHolt x = new OsierHolt();
        x.hire(1, 1);
        x.image();
        x.hire(1, 1);
        x.image();
        x.hire(1, 1);
        x.back();
        Kit.is("hands", x.count(2), 2);
        x.undo();
        x.back();
        Kit.is("again the latest", x.count(2), 2);
    }

    @Kit.Says(promise = 52, words = "`void image()`: THE IMAGE is kept.")
    static void theImageOfAll() {
        OsierHolt x = Kit.of(Kit.bed("osier", 1, 9, 5) + ";" + BASKET + ";rods 1 99;order 0 1;flood 60;wet;" + Kit.hand(1, 1));
        Kit.law(x, "grow 1;dear 2");
        x.make(0);
        x.undo();
        x.cut(0);
        x.seed(8);
        x.image();
        // so that no acts are remembered
        x.back();
        String before = Kit.state(x);
        Kit.law(x, "");
        Kit.holt(x, "bed almond age 9 stools 1;rods 1 0;order 0 2;till 3;year 9;" + BASKET + ";" + Kit.hand(2, 2));
        x.years(3);
        x.seed(9);
        x.back();
        Kit.is("state", Kit.state(x), before);
        Kit.is("law", x.count(5) * 10 + x.bed(0, 6), 27);
    }

    @Kit.Says(promise = 52, words = "(but for the TAPE, fault() and THE IMAGE itself)")
    static void goingBackLeavesTapeFaultAndImage() {
        OsierHolt x = new OsierHolt();
        x.image();
        Kit.illegal("a wrong text", () -> Kit.holt(x, "wet;oops"));
        Kit.feed(x, 12, 12, 12);
        x.back();
        Kit.is("the fault", x.fault(), 4);
        Kit.is("the tape", x.pieces(1), 3);
        x.hire(1, 1);
        Kit.is("the image", x.back(), true);
        Kit.is("hands", x.count(2), 0);
        Kit.holt(x, "");
        x.back();
        Kit.is("texts", x.count(4), 0);
        Kit.is("the fault of a right text", x.fault(), OsierHolt.NONE);
    }

    @Kit.Says(promise = 53, words = "true; false, and nothing happens, if none was kept.")
    static void noImage() {
        OsierHolt x = new OsierHolt();
        x.hire(1, 1);
        String before = Kit.state(x);
        Kit.is("back", x.back(), false);
        Kit.is("nothing happens", Kit.state(x), before);
        Kit.is("the act is remembered", x.undo(), true);
        Kit.is("back", x.back(), false);
        x.image();
        Kit.is("back", x.back(), true);
        Kit.is("back again", x.back(), true);
    }

    @Kit.Says(promise = 53, words = "One goes back to THE IMAGE")
    static void textsMayBeReadAgain() {
        OsierHolt x = new OsierHolt();
        x.image();
        for (int text = 0; text < 12; text++) {
            Kit.holt(x, "");
        }
        Kit.law(x, "grow 1");
        x.back();
        Kit.is("texts", x.count(4), 0);
        Kit.is("no law", x.count(5), OsierHolt.NONE);
        Kit.is("a first one", Kit.holt(x, "wet"), 1);
    }

    // ---- promise 54

    @Kit.Says(promise = 54, words = "NONE for another what.")
    static void countOfAnotherWhat() {
        OsierHolt x = new OsierHolt();
        Kit.is("11", x.count(11), 0);
        Kit.is("12", x.count(12), OsierHolt.NONE);
        Kit.is("-1", x.count(-1), OsierHolt.NONE);
        Kit.is("the most", x.count(Integer.MAX_VALUE), OsierHolt.NONE);
        Kit.is("the least", x.count(Integer.MIN_VALUE), OsierHolt.NONE);
    }

    @Kit.Says(promise = 54, words = "5 LINES of THE LAW (NONE without one)")
    static void linesOfNoLaw() {
        OsierHolt x = new OsierHolt();
        Kit.is("without one", x.count(5), OsierHolt.NONE);
        Kit.illegal("a wrong one", () -> Kit.law(x, "grow 1;grow"));
        Kit.is("a wrong one is none", x.count(5), OsierHolt.NONE);
        Kit.law(x, "");
        Kit.is("without lines", x.count(5), 0);
        Kit.law(x, Kit.lines(12, "rot 1"));
        Kit.is("12", x.count(5), 12);
    }

    @Kit.Says(promise = 54, words = "9 1 if it is WET, 10 rows of THE LOG, 11 acts that can be UNDONE")
    static void countsAtTheirBounds() {
        OsierHolt x = cutter();
        Kit.is("not wet", x.count(9), 0);
        Kit.holt(x, "wet");
        Kit.is("wet", x.count(9), 1);
        for (int k = 1; k <= 61; k++) {
            x.cut(0);
            Kit.is("rows", x.count(10), Math.min(k, 60));
            Kit.is("acts", x.count(11), Math.min(k, 12));
        }
    }

    // ---- calls that are refused, and the last call

    private static void refusals(OsierHolt x) {
        Kit.outOfBounds("bed", () -> x.bed(9, 0));
        Kit.noSuch("bed", () -> x.bed(0, 9));
        Kit.outOfBounds("basket", () -> x.basket(9, 0));
        Kit.noSuch("basket", () -> x.basket(0, 99));
        Kit.illegal("over", () -> x.over(0, 99, 0));
        Kit.illegal("years", () -> x.years(0));
        Kit.impossible("cut", () -> x.cut(0));
        Kit.illegal("buy", () -> x.buy(1, 0));
        Kit.impossible("buy", () -> x.buy(6, 999));
        Kit.impossible("sell", () -> x.sell(1, 999));
        Kit.illegal("take", () -> x.take(0, 0));
        Kit.impossible("make", () -> x.make(0));
        Kit.illegal("drain", () -> x.drain(0, 10));
        Kit.illegal("hire", () -> x.hire(0, 0));
        Kit.outOfBounds("teach", () -> x.teach(9));
        Kit.illegal("gain", () -> x.gain(0, 7));
        Kit.illegal("cuts", () -> x.cuts(0, 7));
        Kit.outOfBounds("team", () -> x.team(9));
        Kit.outOfBounds("pairs", () -> x.pairs(9));
        Kit.outOfBounds("change", () -> x.change(0, 9));
        Kit.illegal("share", () -> x.share(0, 100));
        Kit.outOfBounds("price", () -> x.price(0));
        Kit.outOfBounds("rests", () -> x.rests(9));
        Kit.illegal("odds", () -> x.odds(6, 0));
        Kit.noSuch("most", () -> x.most(9));
        Kit.outOfBounds("sort", () -> x.sort(9));
        Kit.illegal("ahead", () -> x.ahead(0, 61, true));
        Kit.illegal("trial", () -> x.trial(61, true));
        Kit.illegal("span", () -> x.span(61, true));
        Kit.outOfBounds("led", () -> x.led(9, true));
        Kit.noSuch("log", () -> x.log(0, 9));
    }

    @Kit.Says(promise = 54, words = "a call that throws changes nothing but the TAPE, where it is used up, and fault(), where a text is read")
    static void refusedCallsChangeNothing() {
        OsierHolt x = Kit.of(Kit.bed("osier", 0, 9, 5) + ";" + BASKET + ";rods 1 3;order 0 1;" + Kit.hand(1, 1));
        x.drain(0, 6);
        Kit.illegal("a wrong text", () -> Kit.holt(x, "wet;oops"));
        Kit.feed(x, 12, 12, 12);
        String before = Kit.state(x);
        refusals(x);
        Kit.is("state", Kit.state(x), before);
        Kit.is("fault", x.fault(), 4);
        Kit.is("the tape", x.pieces(1), 3);
    }

    @Kit.Says(promise = 54, words = "An object is used for at most 512 calls after it has been made")
    static void theLastCall() {
        OsierHolt x = new OsierHolt();
        for (int call = 1; call <= 511; call++) {
            x.years(60);
        }
        Kit.is("the 512th call", x.count(8), 9999);
    }
}
