/** Every method with arguments of every size: the class never throws, and answers what the plain model does. */
public final class AnyArgumentsTest {
    private static final int[] VALUES = {Integer.MIN_VALUE, -3650, -1, 0, 1, 9, 15, 16, 119, 120, 3649, 3650, Integer.MAX_VALUE};
    private static final long[] LONGS = {Long.MIN_VALUE, -1L, 0L, 1L, 32L, 33L, 126L, 127L, 0xffffffffL, 0x100000000L, Long.MAX_VALUE};

    private static final Check CHECK = new Check("any arguments");
    private static FoldedMonths x;
    private static PlainModel y;

    public static void main(String[] args) {
        startAnew();
        for (int a : VALUES) {
            one(a);
            for (int b : VALUES) {
                two(a, b);
                for (int c : VALUES) {
                    three(a, b, c);
                }
            }
        }
        for (long characters : LONGS) {
            CHECK.due("put(" + characters + ")", x.put(characters), y.put(characters));
        }
        CHECK.end();
    }

    private static void startAnew() {
        x = new FoldedMonths();
        y = new PlainModel();
        x.pass(130);
        y.pass(130);
        x.mark(0, 0, 9);
        y.mark(0, 0, 9);
        x.mark(15, 9, 119);
        y.mark(15, 9, 119);
    }

    private static void due(String name, int got, int want, int... values) {
        StringBuilder call = new StringBuilder(name);
        for (int value : values) {
            call.append(' ').append(value);
        }
        CHECK.due(call.toString(), got, want);
    }

    private static void one(int a) {
        startAnew();
        due("count", x.count(a), y.count(a), a);
        due("save", x.save(a), y.save(a), a);
        due("restore", x.restore(a), y.restore(a), a);
        due("pass", x.pass(a), y.pass(a), a);
    }

    private static void two(int a, int b) {
        startAnew();
        due("isMarked", x.isMarked(a, b), y.isMarked(a, b), a, b);
        due("nextMark", x.nextMark(a, b), y.nextMark(a, b), a, b);
        due("ofMonth", x.ofMonth(a, b), y.ofMonth(a, b), a, b);
        due("inMonth", x.inMonth(a, b), y.inMonth(a, b), a, b);
        due("dateOf", x.dateOf(a, b), y.dateOf(a, b), a, b);
        due("sizeAs", x.sizeAs(a, b), y.sizeAs(a, b), a, b);
        due("workOf", x.workOf(a, b), y.workOf(a, b), a, b);
        due("bestOpen", x.bestOpen(a, b), y.bestOpen(a, b), a, b);
        due("set", x.set(a, b), y.set(a, b), a, b);
        due("the work", x.count(5), y.count(5), a, b);
    }

    private static void three(int a, int b, int c) {
        startAnew();
        due("marks", x.marks(a, b, c), y.marks(a, b, c), a, b, c);
        due("crowded", x.crowded(a, b, c), y.crowded(a, b, c), a, b, c);
        due("dayOf", x.dayOf(a, b, c), y.dayOf(a, b, c), a, b, c);
        due("mark", x.mark(a, b, c), y.mark(a, b, c), a, b, c);
        due("clear", x.clear(a, b, c), y.clear(a, b, c), a, b, c);
        for (int d : VALUES) {
            due("both", x.both(a, d, b, c), y.both(a, d, b, c), a, d, b, c);
            due("longest", x.longest(a, b, c, d), y.longest(a, b, c, d), a, b, c, d);
        }
        due("the work", x.count(5), y.count(5), a, b, c);
    }
}
