/** How OsierHolt is used: README.md shows this file and what it prints, and ReadmeTest looks after both. */
public final class Example {
    public static void main(String[] args) {
        OsierHolt x = new OsierHolt();
        tell(x, "bed osier age 3 stools 20; basket stakes 8 rounds 6 weave 1 2 feet 3 pays 9;"
            + " rods 3 40; hand skill 4 wage 2; order 0 2");
        print("texts of the holt", x.holt());
        tell(x, "grow 1 if ripe and not wet; dear 3 if stools > 15");
        print("lines of the law", x.law());

        print("reach of bed 0", x.bed(0, 4));
        print("rods that order 0 needs", x.order(0, 3));
        print("rods that were cut", x.cut(0));
        print("rods of 4 feet", x.store(4));
        print("orders made up in a year", x.years(1));
        print("till then", x.count(7));
        print("rods in the latest row of the log", x.log(0, 3));
        x.undo();
        print("till, the year undone", x.count(7));

        tell(x, 30, 20, 10);
        print("rods of 3 feet for these pieces", x.pieces(3));

        tell(x, "till 60; bed willow age 3");
        try {
            x.holt();
        } catch (IllegalArgumentException e) {
            print("wrong at byte", x.fault());
        }
    }

    /** Puts a text on the tape. */
    private static void tell(OsierHolt x, String text) {
        int[] bytes = new int[text.length()];
        for (int i = 0; i < bytes.length; i++) {
            bytes[i] = text.charAt(i);
        }
        tell(x, bytes);
    }

    /** Puts just these bytes on the tape: four in a number, the highest first, and five numbers at a time. */
    private static void tell(OsierHolt x, int... bytes) {
        x.end(0);
        for (int i = 0; i < bytes.length; i += 20) {
            int[] numbers = new int[5];
            for (int k = 0; k < 20 && i + k < bytes.length; k++) {
                numbers[k / 4] |= (bytes[i + k] & 255) << 24 - 8 * (k % 4);
            }
            x.feed(numbers[0], numbers[1], numbers[2], numbers[3], numbers[4]);
        }
        x.end(bytes.length);
    }

    private static void print(String what, int answer) {
        System.out.println(what + ": " + answer);
    }
}
