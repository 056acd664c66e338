import java.lang.management.ManagementFactory;
import java.lang.reflect.Array;
import java.lang.reflect.Field;
import java.lang.reflect.Modifier;
import java.util.ArrayList;
import java.util.Arrays;
import java.util.IdentityHashMap;
import java.util.List;
import java.util.Map;

/** What one object takes of the room in which all calls of a run live, and that no call takes more of it. */
final class RoomTest {
    private static final int MOST_OBJECTS = 600;
    private static final int MOST_CELLS = 12000;
    private static final int ROUNDS = 20;
    private static int sum = 0;

    public static void main(String[] args) throws IllegalAccessException {
        Kit.part("the room");
        OsierHolt x = new OsierHolt();
        Kit.is("objects and arrays of a new object are few", reached(x).size() <= MOST_OBJECTS, true);
        Kit.is("fields and elements of a new object are few", cells(x) <= MOST_CELLS, true);
        Kit.is("bytes that calls take", leastTaken(), 0L);
        System.out.println(reached(x).size() + " objects and arrays, " + cells(x) + " fields and elements");
        Kit.close();
    }

    /** The first rounds also take what the machine itself needs to get going. */
    private static long leastTaken() throws IllegalAccessException {
        long least = Long.MAX_VALUE;
        for (int round = 0; round < ROUNDS; round++) {
            OsierHolt x = started();
            int before = reached(x).size();
            long taken = taken(x);
            Kit.is("objects kept behind the calls", reached(x).size(), before);
            least = Math.min(least, taken);
        }
        return least;
    }

    private static OsierHolt started() {
        OsierHolt x = Kit.of(Kit.lines(6, Kit.bed("osier", 3, 40, 6)), Kit.lines(5, Kit.basket(24, 20, "1 2 3 4", 2, 9)),
            Kit.lines(4, Kit.hand(3, 1)) + ";" + Kit.lines(5, "order 1 1") + "; rods 2 999; till 900; flood 50");
        Kit.law(x, "grow 1 if ripe or wet; rot 1 if not ( age + damp < bed )");
        Kit.feed(x, 0, 1, 7, 0);
        return x;
    }

    private static long taken(OsierHolt x) {
        com.sun.management.ThreadMXBean threads = (com.sun.management.ThreadMXBean) ManagementFactory.getThreadMXBean();
        long before = threads.getCurrentThreadAllocatedBytes();
        texts(x);
        acts(x);
        looks(x);
        reckons(x);
        goesBack(x);
        return threads.getCurrentThreadAllocatedBytes() - before;
    }

    private static void texts(OsierHolt x) {
        sum += x.look();
        sum += x.feed(0x77657420, 0x20202020, 0x20202020, 0x20202020, 0x20202020) + x.holt() + x.fault();
        sum += x.feed(0x726f7420, 0x35206966, 0x20776574, 0x20202020, 0x20202020) + x.law();
        sum += x.feed(0x05050505, 0x05050505, 0, 0, 0) + (x.end(8) ? 1 : 0) + x.pieces(1);
        sum += x.feed(0x05050505, 0x05050505, 0, 0, 0) + (x.end(8) ? 1 : 0) + x.rod(1, 7);
        sum += x.feed(0x05010600, 0, 0, 0, 0) + (x.end(4) ? 1 : 0) + x.found(true);
    }

    private static void acts(OsierHolt x) {
        for (int act = 0; act < 3; act++) {
            sum += x.years(5) + x.cut(act) + x.buy(1, 2) + x.sell(1, 1) + x.drain(2, act) + x.teach(0);
        }
        sum += x.hire(1, 1) + x.take(1, 1) + x.make(5);
        x.undo();
        x.drop(5);
        x.image();
    }

    private static void looks(OsierHolt x) {
        for (int what = 0; what < 8; what++) {
            sum += x.bed(0, what);
        }
        for (int what = 0; what < 13; what++) {
            sum += x.basket(0, what) + x.run(0, what) + x.count(what);
        }
        for (int what = 0; what < 4; what++) {
            sum += x.order(0, what) + x.log(0, what);
        }
        sum += (x.over(0, 1, 1) ? 1 : 0) + (x.sound(0) ? 1 : 0) + x.store(1) + x.hand(0, true) + x.most(0);
        sum += x.open(true) + x.open(false) + x.twins() + x.sort(0) + x.lengths() + x.led(0, true) + x.led(0, false);
    }

    private static void reckons(OsierHolt x) {
        sum += x.gain(0, 6) + x.cuts(0, 6) + x.worth() + x.fills() + x.team(-1) + x.pairs(-1) + x.change(0, 1);
        sum += x.share(0, 99) + x.price(2) + x.rests(0) + x.odds(5, 2) + x.ahead(0, 9, true) + x.trial(60, true) + x.span(60, true);
    }

    private static void goesBack(OsierHolt x) {
        sum += x.seed(5) + (x.undo() ? 1 : 0) + (x.back() ? 1 : 0) + (x.undo() ? 1 : 0);
    }

    private static List<Object> reached(Object from) throws IllegalAccessException {
        Map<Object, Boolean> seen = new IdentityHashMap<>();
        List<Object> all = new ArrayList<>();
        seen.put(from, true);
        all.add(from);
        for (int i = 0; i < all.size(); i++) {
            for (Object next : referred(all.get(i))) {
                if (next != null && seen.put(next, true) == null) {
                    all.add(next);
                }
            }
        }
        return all;
    }

    private static List<Object> referred(Object from) throws IllegalAccessException {
        List<Object> all = new ArrayList<>();
        if (from instanceof Object[]) {
            all.addAll(Arrays.asList((Object[]) from));
        } else if (!from.getClass().isArray()) {
            for (Field field : fields(from)) {
                if (!field.getType().isPrimitive()) {
                    all.add(field.get(from));
                }
            }
        }
        return all;
    }

    private static List<Field> fields(Object of) {
        List<Field> fields = new ArrayList<>();
        for (Field field : of.getClass().getDeclaredFields()) {
            if (!Modifier.isStatic(field.getModifiers())) {
                field.setAccessible(true);
                fields.add(field);
            }
        }
        return fields;
    }

    private static long cells(Object from) throws IllegalAccessException {
        long cells = 0;
        for (Object one : reached(from)) {
            cells += one.getClass().isArray() ? Array.getLength(one) : fields(one).size();
        }
        return cells;
    }
}
