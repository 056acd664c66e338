import java.lang.annotation.ElementType;
import java.lang.annotation.Retention;
import java.lang.annotation.RetentionPolicy;
import java.lang.annotation.Target;
import java.util.function.Supplier;

/** What the tests have in common: counting what is wrong, and feeding texts and bytes. */
final class Kit {
    /** Of a test: the promise that it holds the class to, and the words of the document that it tests. */
    @Retention(RetentionPolicy.RUNTIME)
    @Target(ElementType.METHOD)
    @interface Says {
        int promise();

        String words();
    }

    private static final int MOST_SECONDS = 300;
    private static int checks = 0;
    private static int wrong = 0;
    private static String part = "";

    static {
        // a call that does not end is wrong, too
        Thread watch = new Thread(Kit::endLate);
        watch.setDaemon(true);
        watch.start();
    }

    private Kit() {
    }

    private static void endLate() {
        try {
            Thread.sleep(1000L * MOST_SECONDS);
        } catch (InterruptedException e) {
            return;
        }
        System.out.println(part + ": it has not ended after " + MOST_SECONDS + " seconds");
        Runtime.getRuntime().halt(1);
    }

    static void part(String name) {
        part = name;
    }

    static void is(String what, Object got, Object want) {
        checks++;
        if (!got.equals(want)) {
            wrong++;
            System.out.println(part + ": " + what + " answered " + got + ", due is " + want);
        }
    }

    static void fails(String what, Class<? extends RuntimeException> kind, Supplier<Object> call) {
        Object got;
        try {
            got = call.get();
        } catch (RuntimeException e) {
            got = e.getClass();
        }
        is(what, got, kind);
    }

    static void outOfBounds(String what, Supplier<Object> call) {
        fails(what, IndexOutOfBoundsException.class, call);
    }

    static void illegal(String what, Supplier<Object> call) {
        fails(what, IllegalArgumentException.class, call);
    }

    static void impossible(String what, Supplier<Object> call) {
        fails(what, IllegalStateException.class, call);
    }

    static void noSuch(String what, Supplier<Object> call) {
        fails(what, java.util.NoSuchElementException.class, call);
    }

    /** Puts just these bytes (400 at most) on the tape. */
    static void feed(OsierHolt holt, int... bytes) {
        holt.end(0);
        for (int i = 0; i < bytes.length; i += 20) {
            int[] numbers = new int[5];
            for (int k = 0; k < 20; k++) {
                int next = i + k < bytes.length ? bytes[i + k] : 0;
                numbers[k / 4] = numbers[k / 4] << 8 | next & 255;
            }
            holt.feed(numbers[0], numbers[1], numbers[2], numbers[3], numbers[4]);
        }
        holt.end(bytes.length);
    }

    static void feed(OsierHolt holt, String text) {
        int[] bytes = new int[text.length()];
        for (int i = 0; i < bytes.length; i++) {
            bytes[i] = text.charAt(i);
        }
        feed(holt, bytes);
    }

    static int holt(OsierHolt holt, String text) {
        feed(holt, text);
        return holt.holt();
    }

    static int law(OsierHolt holt, String text) {
        feed(holt, text);
        return holt.law();
    }

    /** Where a text of THE HOLT is wrong, on a new object. */
    static int holtFault(String text) {
        return holtFault(new OsierHolt(), text);
    }

    static int holtFault(OsierHolt holt, String text) {
        try {
            holt(holt, text);
        } catch (IllegalArgumentException e) {
            return holt.fault();
        }
        return OsierHolt.NONE;
    }

    static int lawFault(String text) {
        OsierHolt holt = new OsierHolt();
        try {
            law(holt, text);
        } catch (IllegalArgumentException e) {
            return holt.fault();
        }
        return OsierHolt.NONE;
    }

    /** A text of THE HOLT in which ^ stands ahead of the first wrong byte. */
    static void wrongHolt(String marked) {
        wrongHolt(new OsierHolt(), marked);
    }

    static void wrongHolt(OsierHolt holt, String marked) {
        is("fault of a text of the holt, " + marked, holtFault(holt, marked.replace("^", "")), marked.indexOf('^'));
    }

    static void rightHolt(String text) {
        is("fault of a text of the holt, " + text, holtFault(text), OsierHolt.NONE);
    }

    /** A text of THE LAW in which ^ stands ahead of the first wrong byte. */
    static void wrongLaw(String marked) {
        is("fault of a text of the law, " + marked, lawFault(marked.replace("^", "")), marked.indexOf('^'));
    }

    static void rightLaw(String text) {
        is("fault of a text of the law, " + text, lawFault(text), OsierHolt.NONE);
    }

    /** So many times the text, parted by ; signs. */
    static String lines(int many, String line) {
        return (";" + line).repeat(many).substring(many == 0 ? 0 : 1);
    }

    static String bed(String sort, int age, int stools, int damp) {
        return "bed " + sort + " age " + age + " stools " + stools + " damp " + damp;
    }

    static String hand(int skill, int wage) {
        return "hand skill " + skill + " wage " + wage;
    }

    static String basket(int stakes, int rounds, String weave, int feet, int pays) {
        return "basket stakes " + stakes + " rounds " + rounds + " weave " + weave + " feet " + feet + " pays " + pays;
    }

    static OsierHolt of(String... texts) {
        OsierHolt holt = new OsierHolt();
        for (String text : texts) {
            holt(holt, text);
        }
        return holt;
    }

    /** All that can be seen of a holt (but for the TAPE and fault()), with calls that change nothing. */
    static String state(OsierHolt x) {
        StringBuilder all = new StringBuilder();
        for (int what = 0; what < 12; what++) {
            all.append(x.count(what)).append(' ');
        }
        for (int bed = 0; bed < x.count(0); bed++) {
            for (int what = 0; what < 7; what++) {
                all.append(x.bed(bed, what)).append(' ');
            }
        }
        for (int basket = 0; basket < x.count(1); basket++) {
            for (int what = 0; what < 5; what++) {
                all.append(x.basket(basket, what)).append(' ').append(x.run(basket, what)).append(' ');
            }
        }
        for (int hand = 0; hand < x.count(2); hand++) {
            all.append(x.hand(hand, false)).append(' ').append(x.hand(hand, true)).append(' ');
        }
        for (int order = 0; order < x.count(3); order++) {
            all.append(x.order(order, 0)).append(x.order(order, 1)).append(x.order(order, 2)).append(' ');
        }
        for (int feet = 1; feet <= 6; feet++) {
            all.append(x.store(feet)).append(' ');
        }
        for (int ago = 0; ago < x.count(10); ago++) {
            all.append(row(x, ago)).append(' ');
        }
        int seed = x.seed(0);
        x.seed(seed);
        return all.append(seed).toString();
    }

    /** A row of THE LOG, as YEAR/BED or ORDER/0 to 2/rods. */
    static String row(OsierHolt x, int ago) {
        return x.log(ago, 0) + "/" + x.log(ago, 1) + "/" + x.log(ago, 2) + "/" + x.log(ago, 3);
    }

    static void close() {
        System.out.println(checks - wrong + " checks hold, " + wrong + " do not");
        if (wrong != 0) {
            System.exit(1);
        }
    }
}
