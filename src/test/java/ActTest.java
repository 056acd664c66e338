/** Promises 15 to 24 and 48 to 54: years and acts, the log, the seed, going back and counting. */
final class ActTest {
    // 3 stakes and 1 round of 1 foot: a need of 4 rods
    private static final String BASKET = "basket stakes 3 rounds 1 weave 1 1 feet 1 pays 20";

    public static void main(String[] args) {
        yearsOfBeds();
        yearsOfFloods();
        yearsOfHands();
        yearsOfOrders();
        yearsAndLimits();
        cut();
        cutAtLimits();
        buy();
        sell();
        takeAndDrop();
        drain();
        hireAndTeach();
        make();
        led();
        log();
        longLog();
        seed();
        undo();
        undoAll();
        image();
        Kit.close();
    }

    private static void yearsOfBeds() {
        Kit.part("promise 15");
        OsierHolt x = Kit.of("bed osier age 7 stools 3 damp 9;bed osier age 9 stools 2;bed osier age 0 stools 1");
        Kit.is("years", x.years(1), 0);
        Kit.is("age, stools", x.bed(0, 1) * 10 + x.bed(0, 2), 83);
        Kit.is("age 9 before", x.bed(1, 1) * 10 + x.bed(1, 2), 91);
        Kit.is("a young one", x.bed(2, 1) * 10 + x.bed(2, 2), 11);
        x.years(1);
        Kit.is("9 then", x.bed(0, 1) * 10 + x.bed(0, 2), 92);
        Kit.is("1 stool at least", x.bed(1, 2), 1);
        Kit.is("year", x.count(8), 2);
        Kit.illegal("0 years", () -> x.years(0));
        Kit.illegal("61 years", () -> x.years(61));
        Kit.illegal("-1 years", () -> x.years(-1));
        Kit.is("nothing changed", x.count(8) * 10 + x.count(11), 22);
        Kit.is("60 years", x.years(60), 0);
        Kit.is("year", x.count(8), 62);
    }

    private static int drawAfter(int seed) {
        return (int) ((1103515245L * seed + 12345L & 0x7fffffffL) >> 16);
    }

    private static void yearsOfFloods() {
        Kit.part("promise 15");
        int draw = drawAfter(1) % 100;
        OsierHolt x = Kit.of("bed osier age 1 stools 1 damp 5;bed osier age 1 stools 1 damp 4;flood " + (draw + 1));
        x.years(1);
        Kit.is("wet", x.count(9), 1);
        Kit.is("damp 5 stands still", x.bed(0, 1), 1);
        Kit.is("damp 4 grows", x.bed(1, 1), 2);
        OsierHolt y = Kit.of("wet;bed osier age 1 stools 1 damp 5;flood " + draw);
        y.years(1);
        Kit.is("not wet", y.count(9), 0);
        Kit.is("grows", y.bed(0, 1), 2);
        OsierHolt z = Kit.of("bed osier age 9 stools 5 damp 9;flood 100");
        z.years(1);
        Kit.is("an old one in a flood", z.bed(0, 1) * 10 + z.bed(0, 2), 94);
        for (int seed : new int[] {0, -1, 77, Integer.MAX_VALUE, Integer.MIN_VALUE, 123456789}) {
            OsierHolt w = Kit.of("flood 50");
            w.seed(seed);
            w.years(1);
            Kit.is("wet after seed " + seed, w.count(9), drawAfter(seed) % 100 < 50 ? 1 : 0);
            Kit.is("seed after " + seed, w.seed(0), (int) (1103515245L * seed + 12345L));
        }
    }

    private static void yearsOfHands() {
        Kit.part("promise 15");
        OsierHolt x = Kit.of("till 30;hand skill 1 wage 20;hand skill 2 wage 11;hand skill 3 wage 10");
        x.years(1);
        Kit.is("the next one is asked", x.count(7), 0);
        x.years(1);
        Kit.is("none is paid", x.count(7), 0);
        // hands 0 and 2 work: skills 4
        for (int many = 4; many <= 5; many++) {
            OsierHolt y = Kit.of("till 30;hand skill 1 wage 20;hand skill 2 wage 11;hand skill 3 wage 10;"
                + BASKET + ";rods 1 999;order 0 " + many);
            Kit.is("made up with skills 4, many " + many, y.years(1), many == 4 ? 1 : 0);
            Kit.is("till", y.count(7), many == 4 ? 80 : 0);
        }
    }

    private static void yearsOfOrders() {
        Kit.part("promise 15");
        OsierHolt x = Kit.of(BASKET + ";hand skill 2 wage 0;rods 1 19;"
            + "order 0 3;order 0 2;order 0 2;order 0 1;year 7");
        x.take(0, 1);
        x.drop(4);
        Kit.is("each by itself", x.years(1), 2);
        Kit.is("open", x.open(false), 1 + 8);
        Kit.is("store", x.store(1), 3);
        Kit.is("till", x.count(7), 50 + 80);
        Kit.is("log", x.log(0, 0) * 1000 + x.log(0, 1) * 100 + x.log(0, 2) * 10 + x.log(0, 3), 7218);
        Kit.is("log", x.log(1, 1) * 100 + x.log(1, 2) * 10 + x.log(1, 3), 118);
        Kit.is("rows", x.count(10), 2);
        x.teach(0);
        x.buy(1, 10);
        Kit.is("more years", x.years(3), 1);
        Kit.is("made up is open no more", x.open(false), 8);
    }

    private static void yearsAndLimits() {
        Kit.part("promise 15");
        OsierHolt x = Kit.of("year 999;till 999;" + BASKET + ";hand skill 9 wage 0;rods 1 999");
        for (int k = 0; k < 150; k++) {
            x.years(60);
        }
        Kit.is("year", x.count(8), 9999);
        x.years(1);
        Kit.is("year is 9999 at most", x.count(8), 9999);
        OsierHolt y = new OsierHolt();
        for (int k = 0; k < 3; k++) {
            Kit.holt(y, "rods 6 999");
            y.sell(6, 999);
        }
        Kit.holt(y, BASKET.replace("pays 20", "pays 99") + ";hand skill 9 wage 0;rods 1 999;order 0 9;order 0 9");
        Kit.is("made up", y.years(1), 2);
        Kit.is("till is 9999 at most", y.count(7), 9999);
    }

    private static void cut() {
        Kit.part("promise 16");
        OsierHolt x = Kit.of("bed osier age 3 stools 10;bed purple age 0 stools 60;bed almond age 9 stools 4;till 12;year 4");
        Kit.is("cut", x.cut(0), 20);
        Kit.is("till", x.count(7), 7);
        Kit.is("store", x.store(3), 20);
        Kit.is("age", x.bed(0, 1), 0);
        Kit.is("stools stay", x.bed(0, 2), 10);
        Kit.impossible("reach 0", () -> x.cut(0));
        Kit.is("reach 6", x.cut(2), 8);
        Kit.is("store", x.store(6), 8);
        Kit.is("log", x.log(0, 0) * 1000 + x.log(0, 1) * 100 + x.log(0, 2) * 10 + x.log(0, 3), 4208);
        x.years(1);
        Kit.impossible("cost above till", () -> x.cut(1));
        Kit.is("nothing changed", x.count(7) * 100 + x.bed(1, 1) * 10 + x.count(11), 213);
        Kit.outOfBounds("bed 3", () -> x.cut(3));
        Kit.outOfBounds("bed -1", () -> x.cut(-1));
    }

    private static void cutAtLimits() {
        Kit.part("promise 16");
        OsierHolt x = Kit.of("bed osier age 1 stools 99;till 999");
        Kit.law(x, "grow 5;dear 0");
        for (int k = 0; k < 51; k++) {
            x.cut(0);
        }
        Kit.is("store", x.store(5), 50 * 198);
        Kit.is("the first one had reach 6", x.store(6), 198);
        Kit.is("the yield is told all the same", x.cut(0), 198);
        Kit.is("9999 at most", x.store(5), 9999);
        Kit.is("in the log, too", x.log(0, 3), 198);
        // the law is reckoned ahead of paying and cutting
        OsierHolt y = Kit.of("bed osier age 2 stools 3;till 20");
        Kit.law(y, "grow 1 if till > 19;dear 15 if ripe");
        Kit.is("cost 20 of 20", y.cut(0), 6);
        Kit.is("reach 3", y.store(3), 6);
        Kit.is("till", y.count(7), 0);
    }

    private static void buy() {
        Kit.part("promise 17");
        OsierHolt x = Kit.of("till 999");
        Kit.is("buy", x.buy(6, 100), 399);
        Kit.is("store", x.store(6), 100);
        Kit.impossible("too little", () -> x.buy(4, 100));
        Kit.is("all of it", x.buy(3, 133), 0);
        Kit.outOfBounds("feet 0", () -> x.buy(0, 0));
        Kit.outOfBounds("feet 7", () -> x.buy(7, 1));
        Kit.illegal("n 0", () -> x.buy(1, 0));
        Kit.illegal("n 1000", () -> x.buy(1, 1000));
        Kit.illegal("n -5", () -> x.buy(1, -5));
        Kit.is("acts", x.count(11), 2);
        OsierHolt y = Kit.of("till 999;bed osier age 1 stools 99");
        Kit.law(y, "grow 1");
        for (int k = 0; k < 50; k++) {
            y.cut(0);
        }
        // one of 2 feet, 49 of 1 foot
        y.cut(0);
        Kit.is("store", y.store(1), 9900);
        Kit.impossible("more than 9999", () -> y.buy(1, 100));
        Kit.is("just 9999", y.buy(1, 99), 999 - 51 * 5 - 99);
        Kit.is("store", y.store(1), 9999);
    }

    private static void sell() {
        Kit.part("promise 18");
        OsierHolt x = Kit.of("rods 3 999;rods 1 3;till 0");
        Kit.is("9 by 2", x.sell(3, 3), 4);
        Kit.is("store", x.store(3), 996);
        Kit.is("1 by 2", x.sell(1, 1), 4);
        Kit.is("2 by 2", x.sell(1, 2), 5);
        Kit.impossible("not so many", () -> x.sell(1, 1));
        Kit.impossible("not so many", () -> x.sell(3, 997));
        Kit.outOfBounds("feet 0", () -> x.sell(0, 0));
        Kit.outOfBounds("feet 7", () -> x.sell(7, 1));
        Kit.illegal("n 0", () -> x.sell(3, 0));
        Kit.illegal("n 1000", () -> x.sell(3, 1000));
        OsierHolt y = new OsierHolt();
        for (int k = 0; k < 4; k++) {
            Kit.holt(y, "rods 6 999");
            y.sell(6, 999);
        }
        Kit.is("9999 at most", y.count(7), 9999);
    }

    private static void takeAndDrop() {
        Kit.part("promises 19, 20");
        OsierHolt x = Kit.of(BASKET + ";" + BASKET + ";order 0 1");
        Kit.outOfBounds("basket 2", () -> x.take(2, 0));
        Kit.outOfBounds("basket -1", () -> x.take(-1, 1));
        Kit.illegal("many 0", () -> x.take(0, 0));
        Kit.illegal("many 10", () -> x.take(0, 10));
        for (int k = 1; k < 6; k++) {
            Kit.is("take", x.take(1, 9), k);
        }
        Kit.is("what was taken", x.order(5, 0) * 100 + x.order(5, 1) * 10 + x.order(5, 2), 191);
        Kit.impossible("a 7th", () -> x.take(0, 1));
        Kit.illegal("a 7th of none", () -> x.take(0, 10));
        x.drop(2);
        Kit.is("open", x.open(false), 63 - 4);
        Kit.impossible("not open", () -> {
            x.drop(2);
            return 0;
        });
        Kit.impossible("dropped ones keep their numbers", () -> x.take(0, 1));
        Kit.is("orders", x.count(3), 6);
        Kit.is("nothing made", x.count(10), 0);
        Kit.outOfBounds("order 6", () -> {
            x.drop(6);
            return 0;
        });
        Kit.outOfBounds("order -1", () -> {
            x.drop(-1);
            return 0;
        });
        Kit.is("acts", x.count(11), 6);
    }

    private static void drain() {
        Kit.part("promise 21");
        OsierHolt x = Kit.of("bed osier age 1 stools 1 damp 7");
        Kit.is("what it was", x.drain(0, 9), 7);
        Kit.is("damp", x.bed(0, 3), 9);
        Kit.is("what it was", x.drain(0, 0), 9);
        Kit.illegal("10", () -> x.drain(0, 10));
        Kit.illegal("-1", () -> x.drain(0, -1));
        Kit.outOfBounds("bed 1", () -> x.drain(1, 10));
        Kit.is("damp", x.bed(0, 3), 0);
        Kit.is("acts", x.count(11), 2);
    }

    private static void hireAndTeach() {
        Kit.part("promises 22, 23");
        OsierHolt x = Kit.of("hand skill 8 wage 1");
        Kit.is("hire", x.hire(1, 99), 1);
        Kit.is("hired", x.hand(1, false) * 100 + x.hand(1, true), 199);
        Kit.illegal("skill 0", () -> x.hire(0, 0));
        Kit.illegal("skill 10", () -> x.hire(10, 0));
        Kit.illegal("wage -1", () -> x.hire(1, -1));
        Kit.illegal("wage 100", () -> x.hire(1, 100));
        for (int k = 2; k < 5; k++) {
            Kit.is("hire", x.hire(9, 0), k);
        }
        Kit.impossible("a 6th", () -> x.hire(1, 0));
        Kit.illegal("a 6th of none", () -> x.hire(10, 0));
        Kit.is("teach", x.teach(0), 9);
        Kit.is("teach at 9", x.teach(0), 9);
        Kit.is("it is an act, too", x.count(11), 6);
        Kit.is("skill", x.hand(0, false), 9);
        Kit.outOfBounds("hand 5", () -> x.teach(5));
        Kit.outOfBounds("hand -1", () -> x.teach(-1));
    }

    private static void make() {
        Kit.part("promise 24");
        OsierHolt x = Kit.of(BASKET + ";rods 1 12;order 0 2;order 0 2;order 0 1;till 0;year 3");
        Kit.is("make", x.make(1), 40);
        Kit.is("store", x.store(1), 4);
        Kit.is("log", x.log(0, 0) * 1000 + x.log(0, 1) * 100 + x.log(0, 2) * 10 + x.log(0, 3), 3128);
        Kit.impossible("open no more", () -> x.make(1));
        Kit.impossible("not so many rods", () -> x.make(0));
        Kit.is("the last rods", x.make(2), 60);
        Kit.is("store", x.store(1), 0);
        Kit.outOfBounds("order 3", () -> x.make(3));
        Kit.outOfBounds("order -1", () -> x.make(-1));
        Kit.is("acts", x.count(11), 2);
        OsierHolt y = new OsierHolt();
        for (int k = 0; k < 3; k++) {
            Kit.holt(y, "rods 6 999");
            y.sell(6, 999);
        }
        Kit.is("till", y.count(7), 9041);
        Kit.holt(y, BASKET.replace("pays 20", "pays 99") + ";order 0 9;order 0 9;rods 1 72");
        y.make(0);
        Kit.is("9999 at most", y.make(1), 9999);
    }

    private static void led() {
        Kit.part("promise 48");
        OsierHolt x = Kit.of("bed osier age 2 stools 1;bed osier age 2 stools 1;till 999;" + BASKET + ";order 0 1;rods 1 99");
        Kit.is("none", x.led(0, false), 0);
        Kit.is("none", x.led(0, true), OsierHolt.NONE);
        x.cut(0);
        x.make(0);
        x.years(3);
        x.cut(0);
        x.cut(1);
        Kit.is("rows", x.led(0, false), 2);
        Kit.is("the latest", x.led(0, true), 3);
        Kit.is("rows", x.led(1, false), 1);
        Kit.outOfBounds("bed 2", () -> x.led(2, true));
        Kit.outOfBounds("bed -1", () -> x.led(-1, false));
    }

    private static void log() {
        Kit.part("promise 49");
        OsierHolt x = Kit.of("bed osier age 1 stools 1;till 999");
        Kit.law(x, "grow 1");
        x.cut(0);
        x.years(9);
        for (int k = 1; k < 60; k++) {
            x.cut(0);
        }
        Kit.is("rows", x.count(10), 60);
        Kit.is("the first one", x.log(59, 0), 0);
        Kit.is("none behind it", x.log(60, 0), OsierHolt.NONE);
        Kit.is("none ahead", x.log(-1, 3), OsierHolt.NONE);
        x.cut(0);
        Kit.is("the latest 60", x.count(10), 60);
        Kit.is("the first one is gone", x.log(59, 0), 9);
        Kit.is("led", x.led(0, false), 60);
        Kit.noSuch("what 4", () -> x.log(0, 4));
        Kit.noSuch("what -1", () -> x.log(99, -1));
    }

    private static void longLog() {
        Kit.part("promises 49, 51");
        OsierHolt x = Kit.of("bed osier age 1 stools 7;bed purple age 1 stools 5;till 999");
        Kit.law(x, "grow 1;dear 1 if sort > 0");
        for (int k = 0; k < 70; k++) {
            if (k % 3 == 0) {
                x.years(1);
            }
            x.cut(k % 2);
        }
        isLog(x, 70);
        x.cut(0);
        isLog(x, 71);
        x.undo();
        isLog(x, 70);
        x.image();
        x.cut(0);
        x.cut(1);
        x.back();
        isLog(x, 70);
    }

    /** After so many cuts, a year more ahead of each third one, of the beds by turns. */
    private static void isLog(OsierHolt x, int cuts) {
        Kit.is("rows", x.count(10), 60);
        for (int ago = 0; ago < 60; ago++) {
            int k = cuts - 1 - ago;
            int year = k / 3 + 1;
            String due = year + " " + k % 2 + " 0 " + (k % 2 == 0 ? 14 : 10);
            String got = x.log(ago, 0) + " " + x.log(ago, 1) + " " + x.log(ago, 2) + " " + x.log(ago, 3);
            Kit.is("log " + ago + " ago", got, due);
        }
    }

    private static void seed() {
        Kit.part("promise 50");
        OsierHolt x = new OsierHolt();
        Kit.is("1 at first", x.seed(Integer.MIN_VALUE), 1);
        Kit.is("any number", x.seed(-7), Integer.MIN_VALUE);
        x.years(2);
        int once = 1103515245 * -7 + 12345;
        Kit.is("draws without floods, too", x.seed(5), 1103515245 * once + 12345);
        Kit.is("no act", x.count(11), 1);
        x.undo();
        Kit.is("as ahead of the act", x.seed(1), -7);
        x.trial(9, true);
        x.span(9, true);
        Kit.is("trials leave it", x.seed(1), 1);
    }

    private static void undo() {
        Kit.part("promise 51");
        OsierHolt x = new OsierHolt();
        for (int k = 1; k <= 13; k++) {
            x.buy(1, 1);
        }
        Kit.is("12 are remembered", x.count(11), 12);
        Kit.is("undo", x.undo(), true);
        Kit.is("till", x.count(7), 38);
        Kit.is("remembered", x.count(11), 11);
        x.buy(1, 5);
        for (int k = 0; k < 12; k++) {
            Kit.is("undo", x.undo(), true);
        }
        Kit.is("the first one is remembered no more", x.undo(), false);
        Kit.is("till", x.count(7), 49);
        x.hire(1, 1);
        Kit.holt(x, "");
        Kit.is("a text", x.undo(), false);
        x.hire(1, 1);
        Kit.law(x, "");
        Kit.is("a law", x.undo(), false);
        x.image();
        x.hire(1, 1);
        x.back();
        Kit.is("going back", x.undo(), false);
        x.hire(1, 1);
        Kit.illegal("a wrong text", () -> Kit.holt(x, "oops"));
        Kit.illegal("a wrong law", () -> Kit.law(x, "oops"));
        Kit.is("a text that is refused", x.undo(), true);
        Kit.is("fault stays", x.fault(), 0);
        x.hire(1, 1);
        x.feed(0x01000000, 0, 0, 0, 0);
        x.end(1);
        x.undo();
        Kit.is("the tape stays", x.pieces(1), 1);
    }

    private static String all(OsierHolt x) {
        StringBuilder text = new StringBuilder();
        for (int what = 0; what < 11; what++) {
            text.append(x.count(what)).append(' ');
        }
        for (int i = 0; i < 60; i++) {
            text.append(x.log(i % 15, i / 15)).append(' ');
        }
        for (int bed = 0; bed < x.count(0); bed++) {
            text.append(x.bed(bed, 1)).append(x.bed(bed, 2)).append(x.bed(bed, 3)).append(' ');
        }
        for (int hand = 0; hand < x.count(2); hand++) {
            text.append(x.hand(hand, false)).append(x.hand(hand, true)).append(' ');
        }
        for (int feet = 1; feet <= 6; feet++) {
            text.append(x.store(feet)).append(' ');
        }
        int seed = x.seed(0);
        x.seed(seed);
        return text.append(x.open(false)).append(' ').append(x.worth()).append(' ').append(seed).toString();
    }

    private static void undoAll() {
        Kit.part("promise 51");
        OsierHolt x = Kit.of("bed osier age 8 stools 9 damp 6;" + BASKET + ";rods 1 99;rods 2 9;flood 60;wet",
            "hand skill 5 wage 1;order 0 2;order 0 3;order 0 1");
        String[] before = new String[10];
        for (int act = 0; act < 10; act++) {
            before[act] = all(x);
            act(x, act);
        }
        for (int act = 9; act >= 0; act--) {
            Kit.is("undo", x.undo(), true);
            Kit.is("all as ahead of act " + act, all(x), before[act]);
        }
        Kit.is("undo", x.undo(), false);
    }

    private static void act(OsierHolt x, int act) {
        switch (act) {
            case 0: x.cut(0); break;
            case 1: x.make(2); break;
            case 2: x.take(0, 4); break;
            case 3: x.drop(1); break;
            case 4: x.years(7); break;
            case 5: x.drain(0, 1); break;
            case 6: x.hire(3, 3); break;
            case 7: x.teach(0); break;
            case 8: x.buy(2, 1); break;
            default: x.sell(2, 4);
        }
    }

    private static void image() {
        Kit.part("promises 52, 53, 54");
        OsierHolt x = Kit.of("bed osier age 3 stools 9;" + BASKET + ";rods 1 99;order 0 1;flood 9");
        Kit.is("none kept", x.back(), false);
        x.hire(2, 2);
        x.image();
        Kit.is("keeping is no act and forgets none", x.count(11), 1);
        String before = all(x);
        Kit.law(x, "grow 2");
        Kit.holt(x, "wet;till 3;bed osier age 1 stools 1");
        x.years(5);
        x.seed(99);
        x.feed(0x01000000, 0, 0, 0, 0);
        x.end(1);
        Kit.is("back", x.back(), true);
        Kit.is("all of it", all(x), before);
        Kit.is("the law, too", x.count(5), OsierHolt.NONE);
        Kit.is("reach", x.bed(0, 4), 3);
        Kit.is("texts", x.count(4), 1);
        Kit.is("none remembered", x.count(11), 0);
        Kit.is("the tape stays", x.pieces(1), 1);
        x.years(1);
        Kit.is("back again", x.back(), true);
        Kit.is("all of it", all(x), before);
        Kit.law(x, "grow 1");
        x.image();
        Kit.law(x, "grow 2;grow 3");
        x.undo();
        x.back();
        Kit.is("one image, the latest", x.count(5) * 10 + x.bed(0, 4), 14);
        x.years(1);
        x.undo();
        Kit.law(x, "");
        Kit.is("undo leaves the image", x.back(), true);
        Kit.is("the law of it", x.count(5), 1);
        int[] due = {1, 1, 1, 1, 1, 1, 9, 50, 0, 0, 0, 0, -1};
        for (int what = 0; what < due.length; what++) {
            Kit.is("count(" + what + ")", x.count(what), due[what]);
        }
        Kit.is("count(-1)", x.count(-1), OsierHolt.NONE);
    }
}
