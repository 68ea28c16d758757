import java.lang.reflect.Array;
import java.lang.reflect.Field;
import java.lang.reflect.Modifier;
import java.util.IdentityHashMap;
import java.util.Map;

/** The room that a diary takes: its objects and arrays, their fields and elements; no call takes more. */
public final class RoomTest {
    // All calls of one run live in one room of 600,000 objects and 7.3 million fields and elements: a hundred diaries fit.
    private static final int MOST_OBJECTS = 6_000, MOST_ELEMENTS = 73_000;

    private final Map<Object, Boolean> seen = new IdentityHashMap<>();
    private int elements;

    public static void main(String[] args) throws Exception {
        Check check = new Check("room");
        FoldedMonths x = new FoldedMonths();
        RoomTest before = new RoomTest();
        before.walk(x);
        check.holds("objects and arrays: " + before.seen.size(), before.seen.size() <= MOST_OBJECTS);
        check.holds("fields and elements: " + before.elements, before.elements <= MOST_ELEMENTS);
        use(x);
        RoomTest after = new RoomTest();
        after.walk(x);
        check.due("objects and arrays after calls of each kind", after.seen.size(), before.seen.size());
        check.due("fields and elements after calls of each kind", after.elements, before.elements);
        boolean same = true;
        for (Object each : after.seen.keySet()) {
            same &= before.seen.containsKey(each);
        }
        check.holds("they are the ones that were made with the diary", same);
        check.end();
    }

    private static void use(FoldedMonths x) {
        x.set(FoldedMonths.KEEP, 1);
        x.set(FoldedMonths.OPEN, 6);
        for (int i = 0; i < 9; i++) {
            x.pass(400);
            x.mark(i, 0, x.count(0));
            x.save(i % 2);
        }
        x.clear(3, 50, 900);
        x.marks(1, 3, 3000);
        x.isMarked(1, 3);
        x.both(1, 2, 3, 3000);
        x.crowded(2, 3, 3000);
        x.longest(1, 3, 3000, 1);
        x.nextMark(15, 3);
        x.sizeAs(40, FoldedMonths.SAME);
        x.workOf(0, 3649);
        x.bestOpen(0, 3649);
        Diaries.put(x, "ma:" + "0,".repeat(38) + "3");
        x.fault();
        x.carryOut();
        x.undo();
        x.restore(0);
        x.restore(1);
    }

    private void walk(Object object) throws Exception {
        if (object == null || object instanceof String || seen.put(object, true) != null) {
            return;
        }
        if (object.getClass().isArray()) {
            int length = Array.getLength(object);
            elements += length;
            for (int i = 0; i < length && !object.getClass().getComponentType().isPrimitive(); i++) {
                walk(Array.get(object, i));
            }
            return;
        }
        for (Field field : object.getClass().getDeclaredFields()) {
            if (!Modifier.isStatic(field.getModifiers())) {
                elements++;
                field.setAccessible(true);
                if (!field.getType().isPrimitive()) {
                    walk(field.get(object));
                }
            }
        }
    }
}
