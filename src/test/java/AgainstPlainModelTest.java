import java.util.Random;

/** Long runs of calls, always the same ones, each answered by the class and by the plain model. */
public final class AgainstPlainModelTest {
    private static final int RUNS = 90;

    // An object is used for at most 512 calls; the last ones ask for each month, and no step makes more than twelve.
    private static final int CALLS = 512 - 120 - 12;

    private final Random random;
    private final FoldedMonths x = new FoldedMonths();
    private final PlainModel y = new PlainModel();
    private final Check check;
    private final StringBuilder story = new StringBuilder();

    private AgainstPlainModelTest(long seed, Check check) {
        random = new Random(seed);
        this.check = check;
    }

    public static void main(String[] args) {
        Check check = new Check("against the plain model");
        int runs = args.length > 0 ? Integer.parseInt(args[0]) : RUNS;
        long first = args.length > 1 ? Long.parseLong(args[1]) : 1;
        for (int i = 0; i < runs; i++) {
            new AgainstPlainModelTest(first + i, check).run(first + i);
        }
        check.end();
    }

    private void run(long seed) {
        // A few calls that look at the state stand behind each one that may change it.
        while (calls < CALLS) {
            String call = step();
            calls += 4;
            String told = "seed " + seed + ", call " + calls + ", " + call;
            check.due(told + " (the answer)", got, want);
            int what = random.nextInt(13);
            check.due(told + " count(" + what + ")", x.count(what), y.count(what));
            check.due(told + " count(5)", x.count(5), y.count(5));
            int month = anyMonth();
            what = random.nextInt(10);
            check.due(told + " ofMonth(" + month + ", " + what + ")", x.ofMonth(month, what), y.ofMonth(month, what));
        }
        for (int month = 0; month < 120; month++) {
            int what = 3 + random.nextInt(7);
            check.due("seed " + seed + " ofMonth(" + month + ", " + what + ")", x.ofMonth(month, what), y.ofMonth(month, what));
        }
    }

    private int calls;
    private long got;
    private long want;

    private String told(String name, long g, long w, long... values) {
        got = g;
        want = w;
        story.setLength(0);
        story.append(name).append('(');
        for (int i = 0; i < values.length; i++) {
            story.append(i == 0 ? "" : ", ").append(values[i]);
        }
        return story.append(')').toString();
    }

    private String step() {
        switch (random.nextInt(30)) {
            case 0: case 1: case 2: return pass();
            case 3: case 4: case 5: case 6: case 7: case 8: case 9: return write(true);
            case 10: case 11: return write(false);
            case 12: return set();
            case 13: case 14: case 15: case 16: case 17: case 18: case 19: return question();
            case 20: case 21: case 22: return whatIf();
            case 23: case 24: case 25: case 26: return text();
            case 27: return calendar();
            default: return back();
        }
    }

    private int subject() {
        return random.nextInt(25) == 0 ? random.nextInt(40) - 10 : random.nextInt(random.nextBoolean() ? 3 : 16);
    }

    private int anyMonth() {
        return random.nextInt(20) == 0 ? random.nextInt(200) - 40 : random.nextInt(y.count(1) + 1);
    }

    /** A day up to today, mostly one of few days of its month, so that months become the same. */
    private int day() {
        if (random.nextInt(20) == 0) {
            return random.nextInt(3800) - 60;
        }
        int today = y.count(0);
        int some = random.nextInt(today + 1);
        if (random.nextInt(4) == 0) {
            return some;
        }
        int first = y.ofMonth(y.dateOf(some, 3), 0);
        return Math.min(today, first + (random.nextInt(3) == 0 ? y.ofMonth(y.dateOf(some, 3), 1) - 1 : random.nextInt(3)));
    }

    private int later(int from) {
        switch (random.nextInt(6)) {
            case 0: return day();
            case 1: return from;
            case 2: return from + random.nextInt(200);
            case 3: return y.count(0);
            default: return Math.min(y.count(0), from + random.nextInt(4));
        }
    }

    private String pass() {
        int days = random.nextInt(10) == 0 ? random.nextInt(500) - 50 : 1 + random.nextInt(120);
        return told("pass", x.pass(days), y.pass(days), days);
    }

    private String write(boolean value) {
        int s = subject();
        int from = day();
        int to = later(from);
        if (value) {
            return told("mark", x.mark(s, from, to), y.mark(s, from, to), s, from, to);
        }
        return told("clear", x.clear(s, from, to), y.clear(s, from, to), s, from, to);
    }

    private String set() {
        int setting = random.nextInt(12) == 0 ? random.nextInt(5) - 2 : random.nextInt(4) == 0 ? 0 : 1;
        int value = random.nextInt(setting == 0 ? 15 : 9) - 1;
        return told("set", x.set(setting, value), y.set(setting, value), setting, value);
    }

    private String question() {
        int s = subject();
        int from = day();
        int to = later(from);
        switch (random.nextInt(6)) {
            case 0: return told("marks", x.marks(s, from, to), y.marks(s, from, to), s, from, to);
            case 1: return told("isMarked", x.isMarked(s, from), y.isMarked(s, from), s, from);
            case 2: {
                int other = subject();
                return told("both", x.both(s, other, from, to), y.both(s, other, from, to), s, other, from, to);
            }
            case 3: {
                int least = random.nextInt(20) == 0 ? random.nextInt(20) - 1 : 1 + random.nextInt(3);
                return told("crowded", x.crowded(least, from, to), y.crowded(least, from, to), least, from, to);
            }
            case 4: {
                int what = random.nextInt(20) == 0 ? random.nextInt(6) - 2 : random.nextInt(2);
                return told("longest", x.longest(s, from, to, what), y.longest(s, from, to, what), s, from, to, what);
            }
            default: return told("nextMark", x.nextMark(s, from), y.nextMark(s, from), s, from);
        }
    }

    private String whatIf() {
        int from = day();
        int to = later(from);
        switch (random.nextInt(4)) {
            case 0: {
                int month = anyMonth();
                int form = random.nextInt(7) - 1;
                return told("sizeAs", x.sizeAs(month, form), y.sizeAs(month, form), month, form);
            }
            case 1: {
                int month = anyMonth();
                int s = subject();
                return told("inMonth", x.inMonth(s, month), y.inMonth(s, month), s, month);
            }
            case 2: return told("workOf", x.workOf(from, to), y.workOf(from, to), from, to);
            default: return told("bestOpen", x.bestOpen(from, to), y.bestOpen(from, to), from, to);
        }
    }

    private String calendar() {
        int a = random.nextInt(14) - 2;
        int b = random.nextInt(16) - 1;
        int c = random.nextInt(34) - 1;
        if (random.nextBoolean()) {
            return told("dayOf", x.dayOf(a, b, c), y.dayOf(a, b, c), a, b, c);
        }
        int day = random.nextInt(3700) - 20;
        int what = random.nextInt(6) - 1;
        return told("dateOf", x.dateOf(day, what), y.dateOf(day, what), day, what);
    }

    private String text() {
        switch (random.nextInt(12)) {
            case 0: return told("wipe", x.wipe(), y.wipe());
            case 1: case 2: case 3: return told("carryOut", x.carryOut(), y.carryOut());
            case 4: return told("fault", x.fault(), y.fault());
            case 5: {
                long characters = random.nextLong() >>> random.nextInt(64);
                return told("put", x.put(characters), y.put(characters), characters);
            }
            default: return putText();
        }
    }

    private String putText() {
        StringBuilder text = new StringBuilder();
        if (y.count(11) > 0 && random.nextInt(3) != 0) {
            text.append(random.nextInt(6) == 0 ? ',' : ';');
        }
        if (random.nextInt(4) == 0) {
            text.append('p').append(random.nextInt(random.nextInt(8) == 0 ? 500 : 60));
        } else {
            text.append(random.nextInt(3) == 0 ? 'c' : 'm').append((char) ('a' + random.nextInt(3))).append(':');
            int ranges = 1 + random.nextInt(2);
            for (int i = 0; i < ranges; i++) {
                int from = day();
                text.append(i == 0 ? "" : ",").append(from);
                if (random.nextBoolean()) {
                    text.append('-').append(later(from));
                }
            }
        }
        if (random.nextInt(6) == 0) {
            String signs = "mcp:;,-0123456789aqpZ";
            text.setCharAt(random.nextInt(text.length()), signs.charAt(random.nextInt(signs.length())));
        }
        for (int i = 0; i < text.length(); i += 8) {
            long characters = 0;
            for (int k = i; k < text.length() && k < i + 8; k++) {
                characters = characters << 8 | text.charAt(k);
            }
            check.due("put(" + characters + ")", x.put(characters), y.put(characters));
            calls++;
        }
        check.due("fault() of a text", x.fault(), y.fault());
        return told("put " + text, 0, 0);
    }

    private String back() {
        int slot = random.nextInt(12) == 0 ? random.nextInt(5) - 2 : random.nextInt(2);
        switch (random.nextInt(4)) {
            case 0: return told("save", x.save(slot), y.save(slot), slot);
            case 1: return random.nextInt(3) == 0 ? told("restore", x.restore(slot), y.restore(slot), slot)
                : told("save", x.save(slot), y.save(slot), slot);
            default: return told("undo", x.undo(), y.undo());
        }
    }
}
