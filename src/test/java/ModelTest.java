import java.math.BigInteger;
import java.util.ArrayDeque;
import java.util.ArrayList;
import java.util.Arrays;
import java.util.Deque;
import java.util.HashMap;
import java.util.List;
import java.util.Map;
import java.util.NoSuchElementException;
import java.util.Random;
import java.util.function.Supplier;

/** Runs of calls by a fixed seed, each answered by OsierHolt and by a model that reckons in the slowest and plainest way. */
final class ModelTest {
    private static final int RUNS = 400;
    private static final int CALLS = 512;

    public static void main(String[] args) {
        Kit.part("the model");
        for (int run = 0; run < RUNS; run++) {
            new Run(run).go();
        }
        Kit.close();
    }

    private static final class Run {
        private final int number;
        private final Random random;
        private final OsierHolt real = new OsierHolt();
        private final Model model = new Model();
        private final StringBuilder calls = new StringBuilder();

        Run(int number) {
            this.number = number;
            this.random = new Random(number);
        }

        void go() {
            if (number % 8 != 0) {
                begin();
            }
            for (int call = 0; call < CALLS; call++) {
                step(random.nextInt(100));
            }
        }

        /** A holt in which most calls have something to answer; kept as the image, so that going back keeps it, too. */
        private void begin() {
            Texts texts = new Texts(random);
            for (int text = 0; text < 3; text++) {
                String right = texts.right(text);
                tell(right);
                both("holt " + right, real::holt, model::holt);
            }
            real.image();
            model.image();
            calls.append("image\n");
        }

        private void both(String name, Supplier<Object> ofReal, Supplier<Object> ofModel) {
            Object got = answer(ofReal);
            Object due = answer(ofModel);
            if (!got.equals(due)) {
                System.out.println("run " + number + " calls:\n" + calls);
            }
            calls.append(name).append(" = ").append(due).append('\n');
            Kit.is("run " + number + ": " + name, got, due);
        }

        private static Object answer(Supplier<Object> call) {
            try {
                return call.get();
            } catch (RuntimeException e) {
                return "throws " + e.getClass().getSimpleName();
            }
        }

        /** Mostly a number that there is, now and then one beyond. */
        private int pick(int least, int most) {
            int chance = random.nextInt(40);
            if (chance == 0) {
                return least - 1;
            }
            if (chance == 1) {
                return most + 1;
            }
            if (chance == 2) {
                return random.nextInt();
            }
            return most < least ? least : least + random.nextInt(most - least + 1);
        }

        private void step(int kind) {
            if (kind < 4) {
                textOfHolt();
            } else if (kind < 7) {
                textOfLaw();
            } else if (kind < 30) {
                act(random.nextInt(14));
            } else if (kind < 36) {
                goBack(random.nextInt(8));
            } else if (kind < 70) {
                look(random.nextInt(20));
            } else {
                reckon(random.nextInt(25));
            }
        }

        private void tell(int[] bytes) {
            int most = Math.min(bytes.length, 400);
            Kit.feed(real, Arrays.copyOf(bytes, most));
            model.tape.clear();
            for (int i = 0; i < most; i++) {
                model.tape.add(bytes[i]);
            }
        }

        private void tell(String text) {
            tell(text.chars().toArray());
        }

        private void textOfHolt() {
            String text = new Texts(random).holt(model.s.beds.size() + model.s.baskets.size() > 7);
            tell(text);
            both("holt " + text, real::holt, model::holt);
            both("fault", real::fault, () -> model.fault);
        }

        private void textOfLaw() {
            String text = new Texts(random).law();
            tell(text);
            both("law " + text, real::law, model::law);
            both("fault", real::fault, () -> model.fault);
        }

        private void act(int kind) {
            int bed = pick(0, model.s.beds.size() - 1);
            int basket = pick(0, model.s.baskets.size() - 1);
            int hand = pick(0, model.s.hands.size() - 1);
            int order = pick(0, model.s.orders.size() - 1);
            int feet = pick(1, 6);
            int n = random.nextInt(3) == 0 ? pick(1, 999) : pick(1, 30);
            switch (kind) {
                case 0, 1 -> {
                    int years = random.nextBoolean() ? pick(1, 3) : pick(1, 60);
                    both("years " + years, () -> real.years(years), () -> model.years(years));
                }
                case 2, 3 -> both("cut " + bed, () -> real.cut(bed), () -> model.cut(bed));
                case 4 -> both("buy " + feet + " " + n, () -> real.buy(feet, n), () -> model.buy(feet, n));
                case 5 -> both("sell " + feet + " " + n, () -> real.sell(feet, n), () -> model.sell(feet, n));
                case 6, 7 -> {
                    int many = pick(1, 9);
                    both("take " + basket + " " + many, () -> real.take(basket, many), () -> model.take(basket, many));
                }
                case 8 -> both("drop " + order, () -> {
                    real.drop(order);
                    return 0;
                }, () -> model.drop(order));
                case 9 -> {
                    int damp = pick(0, 9);
                    both("drain " + bed + " " + damp, () -> real.drain(bed, damp), () -> model.drain(bed, damp));
                }
                case 10 -> {
                    int skill = pick(1, 9);
                    int wage = random.nextBoolean() ? pick(0, 9) : pick(0, 99);
                    both("hire " + skill + " " + wage, () -> real.hire(skill, wage), () -> model.hire(skill, wage));
                }
                case 11 -> both("teach " + hand, () -> real.teach(hand), () -> model.teach(hand));
                default -> both("make " + order, () -> real.make(order), () -> model.make(order));
            }
        }

        private void goBack(int kind) {
            switch (kind) {
                case 0, 1, 2 -> both("undo", real::undo, model::undo);
                case 3 -> {
                    if (random.nextBoolean()) {
                        return;
                    }
                    real.image();
                    model.image();
                    calls.append("image\n");
                }
                case 4 -> both("back", real::back, model::back);
                case 5 -> {
                    int seed = random.nextBoolean() ? random.nextInt() : random.nextInt(9);
                    both("seed " + seed, () -> real.seed(seed), () -> model.seed(seed));
                }
                case 6 -> {
                    int[] n = {random.nextInt(), random.nextInt(), random.nextInt(), random.nextInt(), random.nextInt()};
                    both("feed", () -> real.feed(n[0], n[1], n[2], n[3], n[4]), () -> model.feed(n));
                }
                default -> {
                    int end = random.nextBoolean() ? random.nextInt(45) - 2 : random.nextInt(450);
                    both("end " + end, () -> real.end(end), () -> model.end(end));
                }
            }
        }

        private void look(int kind) {
            int bed = pick(0, model.s.beds.size() - 1);
            int basket = pick(0, model.s.baskets.size() - 1);
            int hand = pick(0, model.s.hands.size() - 1);
            int order = pick(0, model.s.orders.size() - 1);
            boolean flag = random.nextBoolean();
            int what = pick(0, 12);
            int less = pick(0, 7);
            switch (kind) {
                case 0, 1, 2, 3 -> both("bed " + bed + " " + less, () -> real.bed(bed, less), () -> model.bed(bed, less));
                case 4, 5, 6, 7 -> both("basket " + basket + " " + what, () -> real.basket(basket, what), () -> model.basket(basket, what));
                case 8 -> both("run " + basket + " " + less, () -> real.run(basket, less), () -> model.run(basket, less));
                case 9 -> {
                    int round = pick(0, 5);
                    int stake = pick(0, 9);
                    both("over " + basket + " " + round + " " + stake, () -> real.over(basket, round, stake), () -> model.over(basket, round, stake));
                }
                case 10 -> both("sound " + basket, () -> real.sound(basket), () -> model.sound(basket));
                case 11 -> both("store " + less, () -> real.store(less), () -> model.store(less));
                case 12 -> both("hand " + hand + " " + flag, () -> real.hand(hand, flag), () -> model.hand(hand, flag));
                case 13 -> {
                    int column = pick(0, 3);
                    both("order " + order + " " + column, () -> real.order(order, column), () -> model.order(order, column));
                }
                case 14, 15 -> {
                    int ago = random.nextBoolean() ? pick(0, 9) : pick(0, 60);
                    int column = pick(0, 3);
                    both("log " + ago + " " + column, () -> real.log(ago, column), () -> model.log(ago, column));
                }
                case 16 -> both("led " + bed + " " + flag, () -> real.led(bed, flag), () -> model.led(bed, flag));
                default -> both("count " + what, () -> real.count(what), () -> model.count(what));
            }
        }

        private int[] somePieces() {
            int[] lengths = new int[random.nextInt(8) + (random.nextInt(20) == 0 ? 3 : 0)];
            int most = 10 + random.nextInt(random.nextInt(5) == 0 ? 64 : 30);
            for (int i = 0; i < lengths.length; i++) {
                lengths[i] = random.nextInt(50) == 0 ? 0 : 1 + random.nextInt(most);
            }
            return lengths;
        }

        private int[] someRows() {
            int over = 1 + random.nextInt(4);
            int under = 1 + random.nextInt(4);
            int later = random.nextInt(over + under);
            int[] rows = new int[2 * random.nextInt(random.nextInt(9) == 0 ? 22 : 7) + (random.nextInt(20) == 0 ? 1 : 0)];
            for (int i = 0; i + 1 < rows.length; i += 2) {
                rows[i] = random.nextInt(random.nextInt(30) == 0 ? 101 : 20);
                rows[i + 1] = random.nextInt(40) == 0 ? random.nextInt(3) : (rows[i] + later) % (over + under) < over ? 1 : 0;
            }
            return rows;
        }

        private void reckon(int kind) {
            int bed = pick(0, model.s.beds.size() - 1);
            int basket = pick(0, model.s.baskets.size() - 1);
            int hand = pick(0, model.s.hands.size() - 1);
            int feet = pick(1, 6);
            int six = pick(0, 6);
            int sixty = pick(0, 60);
            boolean flag = random.nextBoolean();
            switch (kind) {
                case 0 -> both("gain " + bed + " " + six, () -> real.gain(bed, six), () -> model.gain(bed, six));
                case 1 -> both("cuts " + bed + " " + six, () -> real.cuts(bed, six), () -> model.cuts(bed, six));
                case 2 -> both("worth", real::worth, model::worth);
                case 3 -> both("fills", real::fills, model::fills);
                case 4 -> {
                    tell(somePieces());
                    both("pieces " + feet + model.tape, () -> real.pieces(feet), () -> model.pieces(feet));
                }
                case 5 -> {
                    tell(somePieces());
                    both("rod " + feet + " " + six + model.tape, () -> real.rod(feet, six), () -> model.rod(feet, six));
                }
                case 6 -> {
                    tell(someRows());
                    both("found " + flag + model.tape, () -> real.found(flag), () -> model.found(flag));
                }
                case 7 -> {
                    tell(someRows());
                    both("look" + model.tape, real::look, model::look);
                }
                case 8, 9 -> both("team " + hand, () -> real.team(hand), () -> model.team(hand));
                case 10, 11 -> both("pairs " + bed, () -> real.pairs(bed), () -> model.pairs(bed));
                case 12 -> {
                    int other = pick(0, model.s.baskets.size() - 1);
                    both("change " + basket + " " + other, () -> real.change(basket, other), () -> model.change(basket, other));
                }
                case 13 -> {
                    int n = pick(0, 99);
                    both("share " + hand + " " + n, () -> real.share(hand, n), () -> model.share(hand, n));
                }
                case 14 -> both("price " + feet, () -> real.price(feet), () -> model.price(feet));
                case 15 -> both("rests " + bed, () -> real.rests(bed), () -> model.rests(bed));
                case 16 -> {
                    int n = pick(0, 5);
                    int k = pick(0, 5);
                    both("odds " + n + " " + k, () -> real.odds(n, k), () -> model.odds(n, k));
                }
                case 17 -> {
                    int what = pick(0, 2);
                    both("most " + what, () -> real.most(what), () -> model.most(what));
                }
                case 18 -> both("open " + flag, () -> real.open(flag), () -> model.open(flag));
                case 19 -> both("twins", real::twins, model::twins);
                case 20 -> {
                    int sort = pick(0, 2);
                    both("sort " + sort, () -> real.sort(sort), () -> model.sort(sort));
                }
                case 21 -> both("lengths", real::lengths, model::lengths);
                case 22 -> both("ahead " + bed + " " + sixty + flag, () -> real.ahead(bed, sixty, flag), () -> model.ahead(bed, sixty, flag));
                case 23 -> both("trial " + sixty + flag, () -> real.trial(sixty, flag), () -> model.trial(sixty, flag));
                default -> both("span " + sixty + flag, () -> real.span(sixty, flag), () -> model.span(sixty, flag));
            }
        }
    }

    /** Texts by chance, most of them right or all but right. */
    private static final class Texts {
        private final Random random;

        Texts(Random random) {
            this.random = random;
        }

        private int number(int least, int most) {
            return random.nextInt(80) == 0 ? most + 1 : random.nextInt(80) == 0 ? least - 1 : least + random.nextInt(most - least + 1);
        }

        private String one(String... words) {
            return words[random.nextInt(words.length)];
        }

        /** A right text: beds and rods, then baskets, then hands and orders. */
        String right(int kind) {
            List<String> lines = new ArrayList<>();
            for (int i = 2 + random.nextInt(3); i > 0; i--) {
                if (kind == 0) {
                    lines.add("bed " + one("osier", "purple", "almond") + " age " + random.nextInt(10) + " stools "
                        + (1 + random.nextInt(99)) + " damp " + random.nextInt(10));
                    lines.add("rods " + (1 + random.nextInt(6)) + " " + random.nextInt(1000));
                } else if (kind == 1) {
                    lines.add("basket stakes " + (3 + random.nextInt(8)) + " rounds " + (1 + random.nextInt(5)) + " weave"
                        + (" " + (1 + random.nextInt(4)) + " " + (1 + random.nextInt(4))).repeat(1 + random.nextInt(3))
                        + " feet " + (1 + random.nextInt(random.nextInt(2) == 0 ? 2 : 6)) + " pays " + random.nextInt(30));
                } else {
                    lines.add("hand skill " + (1 + random.nextInt(9)) + " wage " + random.nextInt(7));
                    lines.add("order " + random.nextInt(2) + " " + (1 + random.nextInt(5)));
                }
            }
            lines.add(kind == 0 ? "till " + random.nextInt(1000) : "flood " + random.nextInt(101));
            return String.join(";", lines);
        }

        String holt(boolean full) {
            List<String> lines = new ArrayList<>();
            int many = random.nextInt(30) == 0 ? 16 : random.nextInt(8);
            for (int i = 0; i < many; i++) {
                lines.add(line(full));
            }
            return spoiled(String.join(one(";", " ; ", "; "), lines));
        }

        private String line(boolean full) {
            switch (random.nextInt(full ? 24 : 12)) {
                case 0, 1:
                    return "bed " + one("osier", "purple", "almond") + " age " + number(0, 9) + " stools " + number(1, 99)
                        + (random.nextBoolean() ? " damp " + number(0, 9) : "");
                case 2, 3:
                    return "basket stakes " + number(3, random.nextBoolean() ? 9 : 24) + " rounds "
                        + number(1, random.nextBoolean() ? 4 : 20) + " weave" + weave() + " feet " + number(1, 6)
                        + " pays " + number(0, 99);
                case 4:
                    return "hand skill " + number(1, 9) + " wage " + number(0, random.nextBoolean() ? 5 : 99);
                case 5, 6:
                    return "order " + number(0, 2) + " " + number(1, 9);
                case 7:
                    return "flood " + number(0, 100);
                case 8:
                    return "till " + number(0, 999);
                case 9:
                    return one("year " + number(0, 999), "wet");
                default:
                    return "rods " + number(1, 6) + " " + number(0, random.nextBoolean() ? 50 : 999);
            }
        }

        private String weave() {
            StringBuilder runs = new StringBuilder();
            int pairs = 1 + random.nextInt(random.nextInt(30) == 0 ? 4 : 3);
            int most = 1 + random.nextInt(4);
            for (int i = 0; i < 2 * pairs - (random.nextInt(40) == 0 ? 1 : 0); i++) {
                runs.append(' ').append(number(1, most));
            }
            return runs.toString();
        }

        String law() {
            List<String> lines = new ArrayList<>();
            int many = random.nextInt(30) == 0 ? 14 : random.nextInt(6);
            for (int i = 0; i < many; i++) {
                lines.add(one("grow ", "rot ", "dear ") + number(0, random.nextInt(4) == 0 ? 99 : 4)
                    + (random.nextInt(4) == 0 ? "" : " if " + any(random.nextInt(9))));
            }
            return spoiled(String.join(one(";", " ; ", "; "), lines));
        }

        private String any(int deep) {
            String text = all(deep);
            return random.nextInt(3) == 0 ? text + " or " + all(deep) : text;
        }

        private String all(int deep) {
            String text = atom(deep);
            return random.nextInt(3) == 0 ? text + " and " + atom(deep) : text;
        }

        private String atom(int deep) {
            if (deep > 0 && random.nextInt(4) != 0) {
                return random.nextBoolean() ? "not " + atom(deep - 1) : "(" + any(deep - 1) + ")";
            }
            return random.nextBoolean() ? one("wet", "ripe", "crowded") : sum() + one("<", " > ") + sum();
        }

        private String sum() {
            String text = part();
            return random.nextInt(3) == 0 ? text + one("+", " + ") + part() : text;
        }

        private String part() {
            return random.nextInt(3) == 0 ? "" + number(0, random.nextBoolean() ? 9 : 999)
                : one("bed", "sort", "age", "stools", "damp", "till", "year");
        }

        private String spoiled(String text) {
            if (text.isEmpty() || random.nextInt(4) != 0) {
                return text;
            }
            int at = random.nextInt(text.length());
            switch (random.nextInt(5)) {
                case 0:
                    return text.substring(0, at);
                case 1:
                    return text.substring(0, at) + text.substring(at + 1);
                case 2:
                    return text.substring(0, at) + one(" ", ";", "a", "(", ")", "0", "\u00ff", "not ", "if", "<") + text.substring(at);
                case 3:
                    return text.substring(0, at) + one("x", " ", "9", ">", "+", "@", "{", "`") + text.substring(at + 1);
                default:
                    return "  " + text + "  ";
            }
        }
    }

    private static final class Bed {
        int sort;
        int age;
        int stools;
        int damp;

        Bed copy() {
            Bed bed = new Bed();
            bed.sort = sort;
            bed.age = age;
            bed.stools = stools;
            bed.damp = damp;
            return bed;
        }
    }

    private record Basket(int stakes, int rounds, List<Integer> runs, int feet, int pays) {
        int need() {
            int rods = 0;
            // each rod more covers so many half inches
            for (int left = stakes * rounds * 2; left > 0; left -= 12 * feet - 2) {
                rods++;
            }
            return stakes + rods;
        }

        String walk(int many) {
            StringBuilder walk = new StringBuilder();
            for (int k = 0; walk.length() < many; k++) {
                walk.append((k % runs.size() % 2 == 0 ? "O" : "-").repeat(runs.get(k % runs.size())));
            }
            return walk.substring(0, many);
        }

        List<String> table(int withStakes) {
            List<String> table = new ArrayList<>();
            String walk = walk(withStakes * rounds);
            for (int round = 0; round < rounds; round++) {
                table.add(walk.substring(round * withStakes, (round + 1) * withStakes));
            }
            return table;
        }

        List<String> columns(int withStakes) {
            List<String> columns = new ArrayList<>();
            for (int stake = 0; stake < withStakes; stake++) {
                StringBuilder column = new StringBuilder();
                for (String round : table(withStakes)) {
                    column.append(round.charAt(stake));
                }
                columns.add(column.toString());
            }
            return columns;
        }

        int loose(int withStakes) {
            int bits = 0;
            for (int stake = 0; stake < withStakes; stake++) {
                String column = columns(withStakes).get(stake);
                bits += !column.contains("O") || !column.contains("-") ? 1 << stake : 0;
            }
            return bits;
        }

        static int longest(String walk) {
            int longest = 0;
            for (int length = 1; length <= walk.length(); length++) {
                if (walk.contains("O".repeat(length)) || walk.contains("-".repeat(length))) {
                    longest = length;
                }
            }
            return longest;
        }

        int again() {
            String walk = walk(2000);
            for (int again = 1;; again++) {
                if (walk.substring(again * stakes).startsWith(walk.substring(0, 300))) {
                    return again;
                }
            }
        }
    }

    private static final class Order {
        int basket;
        int many;
        boolean open = true;

        Order copy() {
            Order order = new Order();
            order.basket = basket;
            order.many = many;
            order.open = open;
            return order;
        }
    }

    private static final class State {
        final List<Bed> beds = new ArrayList<>();
        final List<Basket> baskets = new ArrayList<>();
        final List<int[]> hands = new ArrayList<>();
        final List<Order> orders = new ArrayList<>();
        final List<int[]> log = new ArrayList<>();
        int[] store = new int[7];
        List<LawLine> law = null;
        int flood = 0;
        int till = 50;
        int year = 0;
        boolean wet = false;
        int seed = 1;
        int texts = 0;

        State copy() {
            State copy = new State();
            beds.forEach(bed -> copy.beds.add(bed.copy()));
            copy.baskets.addAll(baskets);
            hands.forEach(hand -> copy.hands.add(hand.clone()));
            orders.forEach(order -> copy.orders.add(order.copy()));
            copy.log.addAll(log);
            copy.store = store.clone();
            copy.law = law;
            copy.flood = flood;
            copy.till = till;
            copy.year = year;
            copy.wet = wet;
            copy.seed = seed;
            copy.texts = texts;
            return copy;
        }

        void note(int one, int kind, int rods) {
            log.add(new int[] {year, one, kind, rods});
            if (log.size() > 60) {
                log.remove(0);
            }
        }

        int rods(Order order) {
            return order.many * baskets.get(order.basket).need();
        }

        boolean can(Order order) {
            return order.open && store[baskets.get(order.basket).feet()] >= rods(order);
        }

        void make(int number, int kind) {
            Order order = orders.get(number);
            Basket basket = baskets.get(order.basket);
            store[basket.feet()] -= rods(order);
            till = Math.min(9999, till + order.many * basket.pays());
            order.open = false;
            note(number, kind, rods(order));
        }

        int oneYear(boolean draws) {
            if (draws) {
                seed = BigInteger.valueOf(1103515245).multiply(BigInteger.valueOf(seed)).add(BigInteger.valueOf(12345)).intValue();
                wet = Integer.toBinaryString(seed | 0).length() > 0 && (seed >> 16 & 0x7fff) % 100 < flood;
            } else {
                wet = false;
            }
            for (Bed bed : beds) {
                if (!(wet && bed.damp >= 5) && bed.age < 9) {
                    bed.age++;
                }
                if (bed.age == 9 && bed.stools > 1) {
                    bed.stools--;
                }
            }
            int skills = 0;
            for (int[] hand : hands) {
                if (hand[1] <= till) {
                    till -= hand[1];
                    skills += hand[0];
                }
            }
            int made = 0;
            for (int number = 0; number < orders.size(); number++) {
                if (skills >= orders.get(number).many && can(orders.get(number))) {
                    make(number, 1);
                    made++;
                }
            }
            if (year < 9999) {
                year++;
            }
            return made;
        }

        int openBits() {
            int bits = 0;
            for (int number = 0; number < orders.size(); number++) {
                bits += orders.get(number).open ? 1 << number : 0;
            }
            return bits;
        }

        int sum(String kind, int bed) {
            int sum = 0;
            for (LawLine line : law == null ? List.<LawLine>of() : law) {
                if (line.kind().equals(kind) && (line.when() == null || line.when().value(this, bed) == 1)) {
                    sum += line.amount();
                }
            }
            return sum;
        }

        int reach(int bed) {
            int reach = beds.get(bed).age + sum("grow", bed) - sum("rot", bed);
            return reach < 0 ? 0 : reach > 6 ? 6 : reach;
        }
    }

    private record LawLine(String kind, int amount, Term when) {
    }

    private interface Term {
        int value(State state, int bed);
    }

    private static final class Wrong extends RuntimeException {
        private static final long serialVersionUID = 1;
        final int at;

        Wrong(int at) {
            this.at = at;
        }
    }

    private record Token(char kind, String text, int at) {
    }

    /** A text as words (w), numbers (n), signs (s) and its end (e). */
    private static final class Tokens {
        final List<Token> all = new ArrayList<>();
        int next = 0;

        Tokens(List<Integer> bytes) {
            StringBuilder text = new StringBuilder();
            bytes.forEach(one -> text.append((char) (int) one));
            java.util.regex.Matcher matcher = java.util.regex.Pattern.compile("([a-z]+)|([0-9]+)|[^ ]").matcher(text);
            while (matcher.find()) {
                char kind = matcher.group(1) != null ? 'w' : matcher.group(2) != null ? 'n' : 's';
                all.add(new Token(kind, matcher.group(), matcher.start()));
            }
            all.add(new Token('e', "", text.length()));
        }

        Token peek() {
            return all.get(next);
        }

        boolean sees(String text) {
            return peek().kind() != 'e' && peek().text().equals(text);
        }

        boolean skip(String text) {
            boolean seen = sees(text);
            next += seen ? 1 : 0;
            return seen;
        }

        void need(String text) {
            if (!skip(text)) {
                throw wrong();
            }
        }

        Wrong wrong() {
            return new Wrong(peek().at());
        }

        int number(int least, int most) {
            Token token = peek();
            if (token.kind() != 'n' || token.text().length() > 3) {
                throw wrong();
            }
            int value = Integer.parseInt(token.text());
            if (value < least || value > most) {
                throw wrong();
            }
            next++;
            return value;
        }
    }

    private static final class Model {
        State s = new State();
        final List<Integer> tape = new ArrayList<>();
        int fault = -1;
        Deque<State> past = new ArrayDeque<>();
        State image = null;

        // ---- the tape and its texts

        Object feed(int[] n) {
            if (tape.size() > 380) {
                return -1;
            }
            for (int one : n) {
                String bits = String.format("%08x", one);
                for (int i = 0; i < 8; i += 2) {
                    tape.add(Integer.parseInt(bits.substring(i, i + 2), 16));
                }
            }
            return tape.size();
        }

        Object end(int n) {
            if (n < 0 || n > tape.size()) {
                return false;
            }
            tape.subList(n, tape.size()).clear();
            return true;
        }

        private List<Integer> use() {
            List<Integer> used = new ArrayList<>(tape);
            tape.clear();
            return used;
        }

        Object holt() {
            Tokens t = new Tokens(use());
            State then = s.copy();
            try {
                fault = -1;
                lines(t, 14, () -> holtLine(t, then));
            } catch (Wrong e) {
                fault = e.at;
                throw new IllegalArgumentException();
            }
            if (s.texts == 12) {
                throw new UnsupportedOperationException();
            }
            s = then;
            past.clear();
            return ++s.texts;
        }

        private void lines(Tokens t, int most, Runnable line) {
            if (t.peek().kind() == 'e') {
                return;
            }
            for (int lines = 1;; lines++) {
                if (lines > most) {
                    throw t.wrong();
                }
                line.run();
                if (t.peek().kind() == 'e') {
                    return;
                }
                t.need(";");
            }
        }

        private void holtLine(Tokens t, State then) {
            boolean full = t.sees("bed") && then.beds.size() == 6 || t.sees("basket") && then.baskets.size() == 5
                || t.sees("hand") && then.hands.size() == 5 || t.sees("order") && then.orders.size() == 6;
            if (full || t.peek().kind() != 'w') {
                throw t.wrong();
            }
            if (t.skip("bed")) {
                Bed bed = new Bed();
                int sort = List.of("osier", "purple", "almond").indexOf(t.peek().text());
                if (sort < 0) {
                    throw t.wrong();
                }
                t.next++;
                bed.sort = sort;
                t.need("age");
                bed.age = t.number(0, 9);
                t.need("stools");
                bed.stools = t.number(1, 99);
                if (t.skip("damp")) {
                    bed.damp = t.number(0, 9);
                }
                then.beds.add(bed);
            } else if (t.skip("basket")) {
                t.need("stakes");
                int stakes = t.number(3, 24);
                t.need("rounds");
                int rounds = t.number(1, 20);
                t.need("weave");
                List<Integer> runs = new ArrayList<>();
                while (runs.size() < 2 || runs.size() % 2 == 1 || t.peek().kind() == 'n') {
                    if (runs.size() == 6) {
                        throw t.wrong();
                    }
                    runs.add(t.number(1, 4));
                }
                t.need("feet");
                int feet = t.number(1, 6);
                t.need("pays");
                then.baskets.add(new Basket(stakes, rounds, runs, feet, t.number(0, 99)));
            } else if (t.skip("rods")) {
                int feet = t.number(1, 6);
                then.store[feet] = t.number(0, 999);
            } else if (t.skip("hand")) {
                t.need("skill");
                int skill = t.number(1, 9);
                t.need("wage");
                then.hands.add(new int[] {skill, t.number(0, 99)});
            } else if (t.skip("order")) {
                Order order = new Order();
                order.basket = t.number(0, then.baskets.size() - 1);
                order.many = t.number(1, 9);
                then.orders.add(order);
            } else if (t.skip("flood")) {
                then.flood = t.number(0, 100);
            } else if (t.skip("till")) {
                then.till = t.number(0, 999);
            } else if (t.skip("year")) {
                then.year = t.number(0, 999);
            } else if (t.skip("wet")) {
                then.wet = true;
            } else {
                throw t.wrong();
            }
        }

        Object law() {
            Tokens t = new Tokens(use());
            List<LawLine> law = new ArrayList<>();
            try {
                fault = -1;
                lines(t, 12, () -> lawLine(t, law));
            } catch (Wrong e) {
                fault = e.at;
                throw new IllegalArgumentException();
            }
            s.law = law;
            past.clear();
            return law.size();
        }

        private static void lawLine(Tokens t, List<LawLine> law) {
            String kind = t.peek().text();
            if (!List.of("grow", "rot", "dear").contains(kind)) {
                throw t.wrong();
            }
            t.next++;
            int amount = t.number(0, 99);
            law.add(new LawLine(kind, amount, t.skip("if") ? any(t, 1) : null));
        }

        private static Term any(Tokens t, int deep) {
            Term left = all(t, deep);
            if (!t.skip("or")) {
                return left;
            }
            Term right = any(t, deep);
            return (state, bed) -> Math.max(left.value(state, bed), right.value(state, bed));
        }

        private static Term all(Tokens t, int deep) {
            Term left = atom(t, deep);
            if (!t.skip("and")) {
                return left;
            }
            Term right = all(t, deep);
            return (state, bed) -> left.value(state, bed) * right.value(state, bed);
        }

        private static Term atom(Tokens t, int deep) {
            if ((t.sees("not") || t.sees("(")) && deep == 7) {
                throw t.wrong();
            }
            if (t.skip("not")) {
                Term term = atom(t, deep + 1);
                return (state, bed) -> term.value(state, bed) == 1 ? 0 : 1;
            }
            if (t.skip("(")) {
                Term term = any(t, deep + 1);
                t.need(")");
                return term;
            }
            if (t.skip("wet")) {
                return (state, bed) -> state.wet ? 1 : 0;
            }
            if (t.skip("ripe")) {
                return (state, bed) -> state.beds.get(bed).age > 1 ? 1 : 0;
            }
            if (t.skip("crowded")) {
                return (state, bed) -> state.beds.get(bed).stools > 50 ? 1 : 0;
            }
            Term left = sum(t);
            boolean below = t.sees("<");
            if (!below && !t.sees(">")) {
                throw t.wrong();
            }
            t.next++;
            Term right = sum(t);
            return (state, bed) -> {
                int more = left.value(state, bed) - right.value(state, bed);
                return (below ? more < 0 : more > 0) ? 1 : 0;
            };
        }

        private static Term sum(Tokens t) {
            Term left = part(t);
            if (!t.skip("+")) {
                return left;
            }
            Term right = sum(t);
            return (state, bed) -> left.value(state, bed) + right.value(state, bed);
        }

        private static Term part(Tokens t) {
            if (t.peek().kind() == 'n') {
                int value = t.number(0, 999);
                return (state, bed) -> value;
            }
            String word = t.peek().text();
            Term term = switch (word) {
                case "bed" -> (state, bed) -> bed;
                case "sort" -> (state, bed) -> state.beds.get(bed).sort;
                case "age" -> (state, bed) -> state.beds.get(bed).age;
                case "stools" -> (state, bed) -> state.beds.get(bed).stools;
                case "damp" -> (state, bed) -> state.beds.get(bed).damp;
                case "till" -> (state, bed) -> state.till;
                case "year" -> (state, bed) -> state.year % 100;
                default -> throw t.wrong();
            };
            t.next++;
            return term;
        }

        // ---- what there is

        private static void index(int index, int least, int most) {
            if (index < least || index > most) {
                throw new IndexOutOfBoundsException();
            }
        }

        private static void number(int n, int least, int most) {
            if (n < least || n > most) {
                throw new IllegalArgumentException();
            }
        }

        private static void can(boolean can) {
            if (!can) {
                throw new IllegalStateException();
            }
        }

        Object bed(int bed, int what) {
            index(bed, 0, s.beds.size() - 1);
            Bed b = s.beds.get(bed);
            return switch (what) {
                case 0 -> b.sort;
                case 1 -> b.age;
                case 2 -> b.stools;
                case 3 -> b.damp;
                case 4 -> s.reach(bed);
                case 5 -> s.reach(bed) == 0 ? 0 : b.stools + b.stools;
                case 6 -> 5 + s.sum("dear", bed);
                case 7 -> b.stools * 100 / s.beds.stream().mapToInt(one -> one.stools).sum();
                default -> throw new NoSuchElementException();
            };
        }

        Object basket(int basket, int what) {
            index(basket, 0, s.baskets.size() - 1);
            Basket b = s.baskets.get(basket);
            return switch (what) {
                case 0 -> b.stakes();
                case 1 -> b.rounds();
                case 2 -> b.feet();
                case 3 -> b.pays();
                case 4 -> b.need();
                case 5 -> b.runs().stream().mapToInt(run -> run).sum();
                case 6 -> b.again();
                case 7 -> b.loose(b.stakes());
                case 8 -> Basket.longest(b.walk(b.stakes() * b.rounds()));
                case 9 -> b.columns(b.stakes()).stream().mapToInt(Basket::longest).max().getAsInt();
                case 10 -> {
                    List<String> table = b.table(b.stakes());
                    int blind = 0;
                    for (int round = 1; round < table.size(); round++) {
                        blind += table.get(round).equals(table.get(round - 1)) ? 1 : 0;
                    }
                    yield blind;
                }
                case 11 -> {
                    int fit = 3;
                    while (fit < 25 && b.loose(fit) != 0) {
                        fit++;
                    }
                    yield fit == 25 ? -1 : fit;
                }
                case 12 -> {
                    int nearest = -1;
                    for (int other = s.baskets.size() - 1; other >= 0; other--) {
                        if (other != basket && (nearest < 0 || (int) change(basket, other) <= (int) change(basket, nearest))) {
                            nearest = other;
                        }
                    }
                    yield nearest;
                }
                default -> throw new NoSuchElementException();
            };
        }

        Object run(int basket, int k) {
            index(basket, 0, s.baskets.size() - 1);
            List<Integer> runs = s.baskets.get(basket).runs();
            return k >= 0 && k < runs.size() ? runs.get(k) : -1;
        }

        Object over(int basket, int round, int stake) {
            index(basket, 0, s.baskets.size() - 1);
            Basket b = s.baskets.get(basket);
            number(round, 0, b.rounds() - 1);
            number(stake, 0, b.stakes() - 1);
            return b.table(b.stakes()).get(round).charAt(stake) == 'O';
        }

        Object sound(int basket) {
            index(basket, 0, s.baskets.size() - 1);
            return s.baskets.get(basket).loose(s.baskets.get(basket).stakes()) == 0;
        }

        Object store(int feet) {
            index(feet, 1, 6);
            return s.store[feet];
        }

        Object hand(int hand, boolean wage) {
            index(hand, 0, s.hands.size() - 1);
            return s.hands.get(hand)[wage ? 1 : 0];
        }

        Object order(int order, int what) {
            index(order, 0, s.orders.size() - 1);
            Order o = s.orders.get(order);
            return switch (what) {
                case 0 -> o.basket;
                case 1 -> o.many;
                case 2 -> o.open ? 1 : 0;
                case 3 -> s.rods(o);
                default -> throw new NoSuchElementException();
            };
        }

        // ---- acts

        private void act() {
            past.addLast(s.copy());
            if (past.size() > 12) {
                past.removeFirst();
            }
        }

        Object years(int n) {
            number(n, 1, 60);
            act();
            int made = 0;
            for (int i = 0; i < n; i++) {
                made += s.oneYear(true);
            }
            return made;
        }

        Object cut(int bed) {
            index(bed, 0, s.beds.size() - 1);
            int reach = s.reach(bed);
            int cost = 5 + s.sum("dear", bed);
            can(reach != 0 && s.till >= cost);
            act();
            int rods = 2 * s.beds.get(bed).stools;
            s.till -= cost;
            s.beds.get(bed).age = 0;
            s.store[reach] = Math.min(9999, s.store[reach] + rods);
            s.note(bed, 0, rods);
            return rods;
        }

        Object buy(int feet, int n) {
            index(feet, 1, 6);
            number(n, 1, 999);
            can(n * feet <= s.till && s.store[feet] + n < 10000);
            act();
            s.store[feet] += n;
            return s.till -= n * feet;
        }

        Object sell(int feet, int n) {
            index(feet, 1, 6);
            number(n, 1, 999);
            can(s.store[feet] >= n);
            act();
            s.store[feet] -= n;
            return s.till = Math.min(9999, s.till + n * feet / 2);
        }

        Object take(int basket, int many) {
            index(basket, 0, s.baskets.size() - 1);
            number(many, 1, 9);
            can(s.orders.size() < 6);
            act();
            Order order = new Order();
            order.basket = basket;
            order.many = many;
            s.orders.add(order);
            return s.orders.size() - 1;
        }

        Object drop(int order) {
            index(order, 0, s.orders.size() - 1);
            can(s.orders.get(order).open);
            act();
            s.orders.get(order).open = false;
            return 0;
        }

        Object drain(int bed, int n) {
            index(bed, 0, s.beds.size() - 1);
            number(n, 0, 9);
            act();
            int before = s.beds.get(bed).damp;
            s.beds.get(bed).damp = n;
            return before;
        }

        Object hire(int skill, int wage) {
            number(skill, 1, 9);
            number(wage, 0, 99);
            can(s.hands.size() < 5);
            act();
            s.hands.add(new int[] {skill, wage});
            return s.hands.size() - 1;
        }

        Object teach(int hand) {
            index(hand, 0, s.hands.size() - 1);
            act();
            int[] taught = s.hands.get(hand);
            taught[0] += taught[0] == 9 ? 0 : 1;
            return taught[0];
        }

        Object make(int order) {
            index(order, 0, s.orders.size() - 1);
            can(s.can(s.orders.get(order)));
            act();
            s.make(order, 2);
            return s.till;
        }

        // ---- what is reckoned

        private int feetOf(int bed, int n, int bits) {
            int age = s.beds.get(bed).age;
            int feet = 0;
            for (int i = 0; i < n; i++) {
                age += age < 9 ? 1 : 0;
                if ((bits & 1 << i) != 0) {
                    feet += s.beds.get(bed).stools * 2 * (age > 6 ? 6 : age);
                    age = 0;
                }
            }
            return feet;
        }

        Object gain(int bed, int n) {
            return feetOf(bed, n, (int) cuts(bed, n));
        }

        Object cuts(int bed, int n) {
            index(bed, 0, s.beds.size() - 1);
            number(n, 0, 6);
            List<Integer> all = new ArrayList<>();
            for (int bits = 0; bits < 1 << n; bits++) {
                all.add(bits);
            }
            all.sort((a, b) -> {
                int more = Integer.compare(feetOf(bed, n, b), feetOf(bed, n, a));
                int fewer = Integer.compare(Integer.bitCount(a), Integer.bitCount(b));
                return more != 0 ? more : fewer != 0 ? fewer : Integer.compare(a, b);
            });
            return all.get(0);
        }

        private int payOf(int bits) {
            int[] store = s.store.clone();
            int pay = 0;
            for (int number = 0; number < s.orders.size(); number++) {
                if ((bits & 1 << number) != 0) {
                    Order order = s.orders.get(number);
                    Basket basket = s.baskets.get(order.basket);
                    store[basket.feet()] -= s.rods(order);
                    if (!order.open || store[basket.feet()] < 0) {
                        return -1;
                    }
                    pay += order.many * basket.pays();
                }
            }
            return pay;
        }

        Object worth() {
            int most = 0;
            for (int bits = 0; bits < 64 && bits < 1 << s.orders.size(); bits++) {
                most = Math.max(most, payOf(bits));
            }
            return most;
        }

        Object fills() {
            for (int many = 0; many <= 6; many++) {
                for (int bits = 0; bits < 1 << s.orders.size(); bits++) {
                    if (Integer.bitCount(bits) == many && payOf(bits) == (int) worth()) {
                        return bits;
                    }
                }
            }
            throw new IllegalStateException("no fills");
        }

        private List<Integer> bestRods(int feet) {
            List<Integer> lengths = use();
            index(feet, 1, 6);
            number(lengths.size(), 0, 8);
            lengths.forEach(length -> number(length, 1, 72));
            List<List<Integer>> ways = new ArrayList<>();
            ways.add(new ArrayList<>());
            for (int length : lengths) {
                List<List<Integer>> longer = new ArrayList<>();
                for (List<Integer> way : ways) {
                    for (int rod = 0; rod <= rodsOf(way); rod++) {
                        int sum = length;
                        for (int k = 0; k < way.size(); k++) {
                            sum += way.get(k) == rod ? lengths.get(k) : 0;
                        }
                        if (sum <= 12 * feet) {
                            List<Integer> more = new ArrayList<>(way);
                            more.add(rod);
                            longer.add(more);
                        }
                    }
                }
                ways = longer;
            }
            List<Integer> best = null;
            for (List<Integer> way : ways) {
                if (best == null || rodsOf(way) < rodsOf(best)
                    || rodsOf(way) == rodsOf(best) && way.toString().compareTo(best.toString()) < 0) {
                    best = way;
                }
            }
            return best;
        }

        private static int rodsOf(List<Integer> way) {
            return way.stream().mapToInt(rod -> rod + 1).max().orElse(0);
        }

        Object pieces(int feet) {
            List<Integer> best = bestRods(feet);
            return best == null ? -1 : rodsOf(best);
        }

        Object rod(int feet, int k) {
            List<Integer> best = bestRods(feet);
            return best == null || k < 0 || k >= best.size() ? -1 : best.get(k);
        }

        private static boolean overAt(int[] weave, int place) {
            String walk = ("O".repeat(weave[0]) + "-".repeat(weave[1])).repeat(110);
            return walk.charAt(weave[2] + place) == 'O';
        }

        private List<int[]> weaves() {
            List<Integer> told = use();
            number(told.size(), 0, 40);
            number(told.size() % 2, 0, 0);
            for (int i = 0; i < told.size(); i++) {
                number(told.get(i), 0, i % 2 == 0 ? 99 : 1);
            }
            List<int[]> weaves = new ArrayList<>();
            for (int code = 110; code <= 449; code++) {
                int[] weave = {code / 100, code / 10 % 10, code % 10};
                boolean fits = weave[1] >= 1 && weave[1] <= 4 && weave[2] < weave[0] + weave[1];
                for (int i = 0; fits && i < told.size(); i += 2) {
                    fits = overAt(weave, told.get(i)) == (told.get(i + 1) == 1);
                }
                if (fits) {
                    weaves.add(weave);
                }
            }
            return weaves;
        }

        Object found(boolean first) {
            List<int[]> weaves = weaves();
            if (!first) {
                return weaves.size();
            }
            return weaves.isEmpty() ? -1 : 100 * weaves.get(0)[0] + 10 * weaves.get(0)[1] + weaves.get(0)[2];
        }

        Object look() {
            List<int[]> weaves = weaves();
            if (weaves.size() < 2) {
                return -1;
            }
            int[] greater = new int[100];
            for (int place = 0; place < 100; place++) {
                int at = place;
                int overs = (int) weaves.stream().filter(weave -> overAt(weave, at)).count();
                greater[place] = Math.max(overs, weaves.size() - overs);
            }
            int least = Arrays.stream(greater).min().getAsInt();
            for (int place = 0;; place++) {
                if (greater[place] == least) {
                    return place;
                }
            }
        }

        Object team(int hand) {
            if (hand != -1) {
                index(hand, 0, s.hands.size() - 1);
            }
            int hands = s.hands.size();
            int base = s.orders.size() + 1;
            int most = -1;
            int[] best = null;
            for (int code = 0; code < Math.pow(base, hands); code++) {
                int[] way = new int[hands];
                int rest = code;
                for (int k = hands - 1; k >= 0; k--) {
                    way[k] = rest % base - 1;
                    rest /= base;
                }
                int value = teamValue(way);
                if (value > most) {
                    most = value;
                    best = way;
                }
            }
            return hand == -1 ? most : best[hand];
        }

        private int teamValue(int[] way) {
            int used = 0;
            int value = 0;
            for (int hand = 0; hand < way.length; hand++) {
                if (way[hand] >= 0) {
                    Order order = s.orders.get(way[hand]);
                    if (!order.open || (used & 1 << way[hand]) != 0) {
                        return -1;
                    }
                    used |= 1 << way[hand];
                    value += s.hands.get(hand)[0] * s.baskets.get(order.basket).pays();
                }
            }
            return value;
        }

        Object pairs(int bed) {
            if (bed != -1) {
                index(bed, 0, s.beds.size() - 1);
            }
            int beds = s.beds.size();
            int most = -1;
            int[] best = null;
            for (int code = 0; code < Math.pow(beds + 1, beds); code++) {
                int[] way = new int[beds];
                int rest = code;
                for (int k = beds - 1; k >= 0; k--) {
                    way[k] = rest % (beds + 1) - 1;
                    rest /= beds + 1;
                }
                int value = pairsValue(way);
                if (value > most) {
                    most = value;
                    best = way;
                }
            }
            return bed == -1 ? most : best[bed];
        }

        private int pairsValue(int[] way) {
            int value = 0;
            for (int bed = 0; bed < way.length; bed++) {
                if (way[bed] >= 0) {
                    if (way[way[bed]] != bed || s.beds.get(bed).sort == s.beds.get(way[bed]).sort) {
                        return -1;
                    }
                    value += s.beds.get(bed).stools;
                }
            }
            return value;
        }

        Object change(int basket, int other) {
            index(basket, 0, s.baskets.size() - 1);
            index(other, 0, s.baskets.size() - 1);
            return change(s.baskets.get(basket).runs(), s.baskets.get(other).runs(), new HashMap<>());
        }

        private static int change(List<Integer> from, List<Integer> to, Map<String, Integer> known) {
            if (from.isEmpty() || to.isEmpty()) {
                return from.size() + to.size();
            }
            String key = from + "" + to;
            Integer before = known.get(key);
            if (before != null) {
                return before;
            }
            List<Integer> fromRest = from.subList(1, from.size());
            List<Integer> toRest = to.subList(1, to.size());
            int changed = change(fromRest, toRest, known) + (from.get(0).equals(to.get(0)) ? 0 : 1);
            int out = change(fromRest, to, known) + 1;
            int in = change(from, toRest, known) + 1;
            int least = Math.min(changed, Math.min(out, in));
            known.put(key, least);
            return least;
        }

        Object share(int hand, int n) {
            index(hand, 0, s.hands.size() - 1);
            number(n, 0, 99);
            int[] has = new int[s.hands.size()];
            for (int i = 0; i < n; i++) {
                int next = 0;
                for (int k = has.length - 1; k >= 0; k--) {
                    if (s.hands.get(k)[0] / (1 + has[k]) >= s.hands.get(next)[0] / (1 + has[next])) {
                        next = k;
                    }
                }
                has[next]++;
            }
            return has[hand];
        }

        Object price(int feet) {
            index(feet, 1, 6);
            int best = 99;
            for (int price = 99; price >= 0; price--) {
                best = all(price, feet) >= all(best, feet) ? price : best;
            }
            return best;
        }

        private long all(int price, int feet) {
            return price * s.baskets.stream().filter(basket -> basket.feet() == feet && basket.pays() >= price).count();
        }

        Object rests(int bed) {
            index(bed, 0, s.beds.size() - 1);
            Bed b = s.beds.get(bed);
            int[][] cutter = {{s.reach(bed), s.reach(bed) + 2}, {-b.damp, b.age}};
            int[][] river = {{1, 0}, {3, 2}};
            int bits = 0;
            for (int mine = 0; mine < 2; mine++) {
                for (int its = 0; its < 2; its++) {
                    boolean rests = cutter[1 - mine][its] <= cutter[mine][its] && river[mine][1 - its] <= river[mine][its];
                    bits += rests ? 1 << 2 * mine + its : 0;
                }
            }
            return bits;
        }

        Object odds(int n, int k) {
            number(n, 0, 5);
            number(k, 0, 5);
            // chance[i]: of i floods so far, in hundredths of hundredths ..
            BigInteger[] chance = new BigInteger[7];
            Arrays.fill(chance, BigInteger.ZERO);
            chance[0] = BigInteger.ONE;
            for (int year = 0; year < n; year++) {
                for (int i = 6; i >= 0; i--) {
                    BigInteger dry = chance[i].multiply(BigInteger.valueOf(100 - s.flood));
                    chance[i] = i == 0 ? dry : dry.add(chance[i - 1].multiply(BigInteger.valueOf(s.flood)));
                }
            }
            BigInteger sum = BigInteger.ZERO;
            for (int i = k; i < 7; i++) {
                sum = sum.add(chance[i]);
            }
            return sum.multiply(BigInteger.valueOf(10000)).divide(BigInteger.TEN.pow(2 * n)).intValue();
        }

        Object most(int what) {
            List<Integer> values = new ArrayList<>();
            switch (what) {
                case 0 -> s.beds.forEach(bed -> values.add(bed.age));
                case 1 -> s.baskets.forEach(basket -> values.add(basket.pays()));
                case 2 -> s.hands.forEach(hand -> values.add(hand[0]));
                default -> throw new NoSuchElementException();
            }
            return values.isEmpty() ? -1 : values.indexOf(java.util.Collections.max(values));
        }

        Object open(boolean can) {
            int bits = 0;
            for (int number = 0; number < s.orders.size(); number++) {
                Order order = s.orders.get(number);
                bits += order.open && (!can || s.can(order)) ? 1 << number : 0;
            }
            return bits;
        }

        Object twins() {
            int twins = 0;
            for (Bed one : s.beds) {
                for (Bed other : s.beds) {
                    twins += one != other && one.sort == other.sort && one.age == other.age ? 1 : 0;
                }
            }
            return twins / 2;
        }

        Object sort(int sort) {
            index(sort, 0, 2);
            int bits = 0;
            for (int bed = 0; bed < s.beds.size(); bed++) {
                bits += s.beds.get(bed).sort == sort ? 1 << bed : 0;
            }
            return bits;
        }

        Object lengths() {
            int bits = 0;
            for (int bit = 0; bit < 6; bit++) {
                bits += s.store[bit + 1] != 0 ? 1 << bit : 0;
            }
            return bits;
        }

        Object ahead(int bed, int n, boolean stools) {
            index(bed, 0, s.beds.size() - 1);
            number(n, 0, 60);
            State then = s.copy();
            for (int i = 0; i < n; i++) {
                then.oneYear(false);
            }
            return stools ? then.beds.get(bed).stools : then.beds.get(bed).age;
        }

        private State after(int n, int seed) {
            number(n, 0, 60);
            State then = s.copy();
            then.seed = seed;
            for (int i = 0; i < n; i++) {
                then.oneYear(true);
            }
            return then;
        }

        Object trial(int n, boolean open) {
            State then = after(n, s.seed);
            return open ? then.openBits() : then.till;
        }

        Object span(int n, boolean most) {
            List<Integer> tills = new ArrayList<>();
            for (int seed = 1; seed <= 6; seed++) {
                tills.add(after(n, seed).till);
            }
            return most ? java.util.Collections.max(tills) : java.util.Collections.min(tills);
        }

        Object led(int bed, boolean year) {
            index(bed, 0, s.beds.size() - 1);
            int rows = 0;
            int latest = -1;
            for (int[] row : s.log) {
                if (row[2] == 0 && row[1] == bed) {
                    rows++;
                    latest = row[0];
                }
            }
            return year ? latest : rows;
        }

        Object log(int ago, int what) {
            if (what < 0 || what > 3) {
                throw new NoSuchElementException();
            }
            return ago < 0 || ago >= s.log.size() ? -1 : s.log.get(s.log.size() - 1 - ago)[what];
        }

        Object seed(int n) {
            int before = s.seed;
            s.seed = n;
            return before;
        }

        // ---- going back

        Object undo() {
            if (past.isEmpty()) {
                return false;
            }
            s = past.removeLast();
            return true;
        }

        void image() {
            image = s.copy();
        }

        Object back() {
            if (image == null) {
                return false;
            }
            s = image.copy();
            past.clear();
            return true;
        }

        Object count(int what) {
            return switch (what) {
                case 0 -> s.beds.size();
                case 1 -> s.baskets.size();
                case 2 -> s.hands.size();
                case 3 -> s.orders.size();
                case 4 -> s.texts;
                case 5 -> s.law == null ? -1 : s.law.size();
                case 6 -> s.flood;
                case 7 -> s.till;
                case 8 -> s.year;
                case 9 -> s.wet ? 1 : 0;
                case 10 -> s.log.size();
                case 11 -> past.size();
                default -> -1;
            };
        }
    }
}
