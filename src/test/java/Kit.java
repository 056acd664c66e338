import java.util.function.Supplier;

/** What the tests have in common: counting what is wrong, and feeding texts and bytes. */
final class Kit {
    private static int checks = 0;
    private static int wrong = 0;
    private static String part = "";

    private Kit() {
    }

    static void part(String name) {
        part = name;
    }

    static void is(String what, Object got, Object want) {
        checks++;
        if (!got.equals(want)) {
            wrong++;
            System.out.println(part + ": " + what + " answered " + got + ", due is " + want);
        }
    }

    static void fails(String what, Class<? extends RuntimeException> kind, Supplier<Object> call) {
        Object got;
        try {
            got = call.get();
        } catch (RuntimeException e) {
            got = e.getClass();
        }
        is(what, got, kind);
    }

    static void outOfBounds(String what, Supplier<Object> call) {
        fails(what, IndexOutOfBoundsException.class, call);
    }

    static void illegal(String what, Supplier<Object> call) {
        fails(what, IllegalArgumentException.class, call);
    }

    static void impossible(String what, Supplier<Object> call) {
        fails(what, IllegalStateException.class, call);
    }

    static void noSuch(String what, Supplier<Object> call) {
        fails(what, java.util.NoSuchElementException.class, call);
    }

    /** Puts just these bytes (400 at most) on the tape. */
    static void feed(OsierHolt holt, int... bytes) {
        holt.end(0);
        for (int i = 0; i < bytes.length; i += 20) {
            int[] numbers = new int[5];
            for (int k = 0; k < 20; k++) {
                int next = i + k < bytes.length ? bytes[i + k] : 0;
                numbers[k / 4] = numbers[k / 4] << 8 | next & 255;
            }
            holt.feed(numbers[0], numbers[1], numbers[2], numbers[3], numbers[4]);
        }
        holt.end(bytes.length);
    }

    static void feed(OsierHolt holt, String text) {
        int[] bytes = new int[text.length()];
        for (int i = 0; i < bytes.length; i++) {
            bytes[i] = text.charAt(i);
        }
        feed(holt, bytes);
    }

    static int holt(OsierHolt holt, String text) {
        feed(holt, text);
        return holt.holt();
    }

    static int law(OsierHolt holt, String text) {
        feed(holt, text);
        return holt.law();
    }

    /** Where a text of THE HOLT is wrong, on a new object. */
    static int holtFault(String text) {
        return holtFault(new OsierHolt(), text);
    }

    static int holtFault(OsierHolt holt, String text) {
        try {
            holt(holt, text);
        } catch (IllegalArgumentException e) {
            return holt.fault();
        }
        return OsierHolt.NONE;
    }

    static int lawFault(String text) {
        OsierHolt holt = new OsierHolt();
        try {
            law(holt, text);
        } catch (IllegalArgumentException e) {
            return holt.fault();
        }
        return OsierHolt.NONE;
    }

    static String basket(int stakes, int rounds, String weave, int feet, int pays) {
        return "basket stakes " + stakes + " rounds " + rounds + " weave " + weave + " feet " + feet + " pays " + pays;
    }

    static OsierHolt of(String... texts) {
        OsierHolt holt = new OsierHolt();
        for (String text : texts) {
            holt(holt, text);
        }
        return holt;
    }

    static void close() {
        System.out.println(checks - wrong + " checks hold, " + wrong + " do not");
        if (wrong != 0) {
            System.exit(1);
        }
    }
}
