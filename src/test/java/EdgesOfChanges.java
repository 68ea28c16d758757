/** The edges of the promises 1 to 5. */
final class EdgesOfChanges {
    private static final int NO_SUCH = -1, BAD_VALUE = -2, TOO_MANY = -4, NOT_POSSIBLE = -5, NONE = -6;
    private static final int KEEP = 0, OPEN = 1;
    private static final int EMPTY = 0;
    private static final int LEAST = Integer.MIN_VALUE, MOST = Integer.MAX_VALUE;
    private static final Story BUSY = Diaries::busy;

    private final Edges e;

    private EdgesOfChanges(Edges e) {
        this.e = e;
    }

    static void test(Edges e) {
        EdgesOfChanges edges = new EdgesOfChanges(e);
        edges.newObject();
        edges.set();
        edges.setErrors();
        edges.pass();
        edges.passErrors();
        edges.mark();
        edges.clear();
        edges.writeErrors("Promise 4: mark", FoldedMonths::mark, "NO_SUCH if there is no such subject, or one of the days is none;",
            "BAD_VALUE if the last day is ahead of the first one;", "NOT_POSSIBLE if the last day is behind today.");
        String asForMark = "errors as for mark().";
        edges.writeErrors("Promise 5: clear", FoldedMonths::clear, asForMark, asForMark, asForMark);
    }

    private void newObject() {
        e.chapter("Promise 1: A new object");
        e.sentence("FoldedMonths(): Creates a diary without marks.");
        FoldedMonths x = new FoldedMonths();
        int[] due = {0, 0, 0, 0, 16, 0, 0, 0, 0, 2, 2, 0, 0};
        for (int what = 0; what < due.length; what++) {
            e.due("count(" + what + ")", x.count(what), due[what]);
        }
        for (int month = 0; month < 120; month++) {
            e.due("marks in the month " + month, x.ofMonth(month, 7), 0);
            e.due("subjects in the month " + month, x.ofMonth(month, 8), 0);
        }
        for (int s = 0; s < 16; s++) {
            e.due("marks of the subject " + s, x.marks(s, 0, 3649), 0);
            e.due("the first mark of it", x.nextMark(s, 0), NONE);
            e.due("its longest row", x.longest(s, 0, 3649, 0), 0);
        }
        e.due("crowded days", x.crowded(1, 0, 3649), 0);
        e.due("nothing to undo", x.undo(), NOT_POSSIBLE);
        e.due("nothing in the slot 0", x.restore(0), NOT_POSSIBLE);
        e.due("nothing in the slot 1", x.restore(1), NOT_POSSIBLE);
        e.due("nothing in the pad", x.wipe(), 0);
    }

    private void set() {
        e.chapter("Promise 2: set");
        e.sentence("int set(int setting, int value): Changes a setting (if it is OPEN, months are folded again then, as told).");
        FoldedMonths x = Diaries.fourOld(3);
        x.mark(0, 0, 0);
        x.mark(1, 31, 31);
        x.mark(2, 59, 60);
        e.due("OPEN as it was", x.set(OPEN, 3), 3);
        e.row("as many as OPEN", x, 0, 1, 2);
        e.counts("no work", x, 0, 3, 4);
        e.due("OPEN as 2", x.set(OPEN, 2), 3);
        e.row("one is folded", x, 1, 2);
        e.counts("its size is work", x, 2, 3, 5);
        e.due("OPEN as 6", x.set(OPEN, 6), 2);
        e.row("none is unfolded", x, 1, 2);
        e.due("OPEN as 0", x.set(OPEN, 0), 6);
        e.row("all are folded", x);
        e.counts("both sizes are work", x, 6, 3, 7);
        e.due("OPEN as 0 again", x.set(OPEN, 0), 0);
        e.counts("nothing is left to fold", x, 6, 3, 7);
        e.sentence("This is a change.");
        FoldedMonths y = new FoldedMonths();
        y.set(KEEP, 3);
        e.due("KEEP: can be undone", y.count(12), 1);
        y.set(KEEP, 3);
        e.due("KEEP as it was: can be undone", y.count(12), 2);
        y.set(OPEN, 2);
        e.due("OPEN as it was: can be undone", y.count(12), 3);
        y.set(OPEN, 0);
        e.due("OPEN: can be undone", y.count(12), 4);
        y.undo();
        e.due("OPEN again", y.count(10), 2);
        y.undo();
        y.undo();
        y.undo();
        e.due("KEEP again", y.count(9), 2);
        e.sentence("Returns the previous value;");
        FoldedMonths z = new FoldedMonths();
        for (int value = 1; value <= 12; value++) {
            e.due("set(KEEP, " + value + ")", z.set(KEEP, value), value == 1 ? 2 : value - 1);
            e.due("KEEP", z.count(9), value);
        }
        for (int value = 0; value <= 6; value++) {
            e.due("set(OPEN, " + value + ")", z.set(OPEN, value), value == 0 ? 2 : value - 1);
            e.due("OPEN", z.count(10), value);
        }
        e.due("KEEP is not OPEN", z.count(9), 12);
    }

    private void setErrors() {
        e.sentence("BAD_VALUE if there is no such setting, or the value is out of its range;");
        Story first = x -> x.save(1);
        for (int setting : new int[] {LEAST, -1, 2, MOST}) {
            e.refused("set(" + setting + ", 1)", first, x -> x.set(setting, 1), BAD_VALUE);
        }
        for (int value : new int[] {LEAST, -1, 0, 13, MOST}) {
            e.refused("set(KEEP, " + value + ")", first, x -> x.set(KEEP, value), BAD_VALUE);
            e.refused("set(KEEP, " + value + ") later", BUSY, x -> x.set(KEEP, value), BAD_VALUE);
        }
        for (int value : new int[] {LEAST, -1, 7, MOST}) {
            e.refused("set(OPEN, " + value + ")", first, x -> x.set(OPEN, value), BAD_VALUE);
            e.refused("set(OPEN, " + value + ") later", BUSY, x -> x.set(OPEN, value), BAD_VALUE);
        }
        e.sentence("NOT_POSSIBLE if it is KEEP, and today is not the day 0.");
        FoldedMonths x = new FoldedMonths();
        e.due("KEEP on the day 0", x.set(KEEP, 4), 2);
        x.save(0);
        x.pass(1);
        e.due("KEEP on the day 1", x.set(KEEP, 5), NOT_POSSIBLE);
        e.due("KEEP as it is on the day 1", x.set(KEEP, 4), NOT_POSSIBLE);
        e.due("OPEN on the day 1", x.set(OPEN, 5), 2);
        x.undo();
        x.undo();
        e.due("KEEP on the day 0 again", x.set(KEEP, 5), 4);
        x.pass(400);
        x.restore(0);
        e.due("KEEP on the day 0 that was saved", x.set(KEEP, 6), 4);
        e.refused("KEEP on the day 1", y -> y.pass(1), y -> y.set(KEEP, 1), NOT_POSSIBLE);
        e.refused("KEEP on the last day", y -> Diaries.passTo(y, 3649), y -> y.set(KEEP, 12), NOT_POSSIBLE);
    }

    private void pass() {
        e.chapter("Promise 3: pass");
        e.sentence("int pass(int days): Lets days pass. This is a change.");
        FoldedMonths x = new FoldedMonths();
        x.pass(1);
        e.due("can be undone", x.count(12), 1);
        x.pass(400);
        e.due("can be undone", x.count(12), 2);
        x.undo();
        e.due("today again", x.count(0), 1);
        e.due("no month is OLD again", x.count(2), 0);
        e.sentence("days: 1 to 400");
        e.due("pass(0)", x.pass(0), BAD_VALUE);
        e.due("pass(1)", x.pass(1), 2);
        e.due("pass(400)", x.pass(400), 402);
        e.due("pass(401)", x.pass(401), BAD_VALUE);
        e.sentence("Returns today then;");
        FoldedMonths y = new FoldedMonths();
        for (int i = 1; i <= 9; i++) {
            e.due("pass(400)", y.pass(400), 400 * i);
            e.due("today", y.count(0), 400 * i);
        }
        e.due("pass(49)", y.pass(49), 3649);
        e.due("the month of today", y.count(1), 119);
    }

    private void passErrors() {
        e.sentence("BAD_VALUE if days is out of range;");
        for (int days : new int[] {LEAST, -400, -1, 0, 401, MOST}) {
            e.refused("pass(" + days + ")", BUSY, x -> x.pass(days), BAD_VALUE);
            e.refused("pass(" + days + ") on the last day", x -> Diaries.passTo(x, 3649), x -> x.pass(days), BAD_VALUE);
        }
        e.sentence("TOO_MANY if today would be above 3649.");
        e.due("400 days, up to the last one", Diaries.diary(2, 2, 3249).pass(400), 3649);
        e.refused("400 days, one too many", x -> Diaries.passTo(x, 3250), x -> x.pass(400), TOO_MANY);
        e.due("one day, up to the last one", Diaries.diary(2, 2, 3648).pass(1), 3649);
        e.refused("one day, one too many", x -> Diaries.passTo(x, 3649), x -> x.pass(1), TOO_MANY);
        e.refused("400 days on the last one", x -> Diaries.passTo(x, 3649), x -> x.pass(400), TOO_MANY);
        e.due("50 days, up to the last one", State.told(Diaries::late).pass(50), 3649);
        e.refused("51 days, one too many", Diaries::late, x -> x.pass(51), TOO_MANY);
    }

    private void mark() {
        e.chapter("Promise 4: mark");
        e.sentence("int mark(int subject, int from, int to): Marks a subject on all days from one to another one (both with it), month "
            + "by month;");
        FoldedMonths x = Diaries.diary(12, 2, 400);
        int[][] spans = {{0, 0}, {400, 400}, {29, 30}, {30, 31}, {31, 31}, {58, 59}, {364, 365}, {10, 380}};
        for (int[] span : spans) {
            FoldedMonths y = Diaries.diary(1, 2, 400);
            e.due("mark() from " + span[0] + " to " + span[1], y.mark(7, span[0], span[1]), span[1] - span[0] + 1);
            e.due("all marks", y.count(8), span[1] - span[0] + 1);
            e.due("the first day", y.isMarked(7, span[0]), 1);
            e.due("the last day", y.isMarked(7, span[1]), 1);
            if (span[0] > 0) {
                e.due("the day ahead of it", y.isMarked(7, span[0] - 1), 0);
            }
            e.due("the day behind it", y.isMarked(7, span[1] + 1), 0);
            e.due("the subject below", y.marks(6, 0, 3649), 0);
            e.due("the subject above", y.marks(8, 0, 3649), 0);
        }
        e.due("all days up to today", x.mark(0, 0, 400), 401);
        FoldedMonths z = Diaries.fourOld(0);
        z.mark(0, 5, 100);
        e.counts("each month is unfolded once and folded once", z, 2 + 2 + 2 + 2, 4, 8);
        FoldedMonths w = Diaries.fourOld(2);
        w.mark(0, 30, 90);
        e.row("in ascending order", w, 2, 3);
        e.sentence("a month all of whose days that are meant are marked already is left alone.");
        FoldedMonths v = Diaries.fourOld(1);
        v.mark(0, 3, 9);
        v.mark(0, 31, 40);
        e.row("the month 1", v, 1);
        e.counts("so far", v, 2, 2, 5);
        e.due("all are marked", v.mark(0, 3, 9), 0);
        e.due("the first one is marked", v.mark(0, 3, 3), 0);
        e.due("the last one is marked", v.mark(0, 9, 9), 0);
        e.row("left alone", v, 1);
        e.counts("left alone", v, 2, 2, 5);
        e.due("one more in the month 0, all in 1", v.mark(0, 9, 9) + v.mark(0, 10, 10), 1);
        e.row("not left alone", v, 0);
        e.counts("0 is unfolded (2), 1 is folded (2)", v, 6, 3, 6);
        e.due("all in the month 1", v.mark(0, 32, 39), 0);
        e.row("left alone", v, 0);
        FoldedMonths u = Diaries.fourOld(1);
        u.mark(0, 0, 58);
        u.mark(0, 60, 60);
        e.row("the month 2", u, 2);
        e.due("all but one in three months", u.mark(0, 0, 60), 1);
        e.row("two of them are left alone", u, 2);
        e.sentence("This is a change.");
        u.undo();
        e.due("changes so far", u.undo(), 4);
        e.due("nothing more is marked", u.mark(0, 0, 58), 0);
        e.due("a change all the same", u.count(12), 5);
        e.due("something is marked", u.mark(1, 0, 58), 59);
        e.due("a change", u.count(12), 6);
        e.sentence("Returns how many days were not marked before;");
        FoldedMonths t = Diaries.diary(2, 2, 40);
        e.due("none", t.mark(0, 25, 35), 11);
        e.due("all", t.mark(0, 25, 35), 0);
        e.due("one ahead of them", t.mark(0, 24, 35), 1);
        e.due("one behind them", t.mark(0, 24, 36), 1);
        e.due("one on both sides", t.mark(0, 23, 37), 2);
        e.due("another subject", t.mark(1, 23, 37), 15);
    }

    private void clear() {
        e.chapter("Promise 5: clear");
        e.sentence("int clear(int subject, int from, int to): Takes the marks of a subject away on all days from one to another one (both "
            + "with it), month by month;");
        int[][] spans = {{0, 0}, {400, 400}, {29, 30}, {30, 31}, {31, 31}, {58, 59}, {364, 365}, {10, 380}};
        for (int[] span : spans) {
            FoldedMonths y = Diaries.diary(1, 2, 401);
            y.mark(6, 0, 401);
            y.mark(7, 0, 401);
            y.mark(8, 0, 401);
            e.due("clear() from " + span[0] + " to " + span[1], y.clear(7, span[0], span[1]), span[1] - span[0] + 1);
            e.due("all marks", y.marks(7, 0, 401), 402 - (span[1] - span[0] + 1));
            e.due("the first day", y.isMarked(7, span[0]), 0);
            e.due("the last day", y.isMarked(7, span[1]), 0);
            if (span[0] > 0) {
                e.due("the day ahead of it", y.isMarked(7, span[0] - 1), 1);
            }
            e.due("the day behind it", y.isMarked(7, span[1] + 1), 1);
            e.due("the subject below", y.marks(6, 0, 3649), 402);
            e.due("the subject above", y.marks(8, 0, 3649), 402);
        }
        FoldedMonths z = Diaries.fourOld(0);
        z.mark(0, 5, 100);
        z.clear(0, 5, 100);
        e.counts("each month is unfolded once more (2) and folded as EMPTY", z, 8 + 8, 8, 12);
        e.sentence("a month none of whose days that are meant is marked is left alone.");
        FoldedMonths x = Diaries.fourOld(1);
        x.mark(0, 5, 5);
        x.mark(0, 31, 40);
        e.row("the month 1", x, 1);
        e.counts("so far", x, 2, 2, 5);
        e.due("the days ahead of the mark", x.clear(0, 0, 4), 0);
        e.due("the days behind it", x.clear(0, 6, 30), 0);
        e.due("a month without a mark", x.clear(0, 59, 89), 0);
        e.due("another subject", x.clear(1, 0, 119), 0);
        e.row("left alone", x, 1);
        e.counts("left alone", x, 2, 2, 5);
        e.form("an EMPTY one is not unfolded", x, 2, EMPTY, 0, NONE);
        e.due("the mark", x.clear(0, 5, 5), 1);
        e.row("not left alone", x, 0);
        e.counts("0 is unfolded (2), 1 is folded (2)", x, 6, 3, 6);
        e.due("the days behind its mark, and the month 1", x.clear(0, 6, 31), 1);
        e.row("the month 0 was left alone, and is folded again", x, 1);
        e.counts("1 is unfolded (2), 0 is EMPTY", x, 8, 4, 7);
        e.sentence("This is a change.");
        FoldedMonths w = new FoldedMonths();
        e.due("nothing is taken away", w.clear(0, 0, 0), 0);
        e.due("a change all the same", w.count(12), 1);
        w.mark(0, 0, 0);
        e.due("something is taken away", w.clear(0, 0, 0), 1);
        e.due("a change", w.count(12), 3);
        e.sentence("Returns how many days were marked before;");
        FoldedMonths t = Diaries.diary(2, 2, 40);
        e.due("none", t.clear(0, 0, 40), 0);
        t.mark(0, 25, 35);
        e.due("one at the start", t.clear(0, 20, 25), 1);
        e.due("one at the end", t.clear(0, 35, 40), 1);
        e.due("all that are left", t.clear(0, 0, 40), 9);
        e.due("none is left", t.clear(0, 0, 40), 0);
    }

    /** mark() or clear(). */
    private interface Write {
        int of(FoldedMonths x, int subject, int from, int to);
    }

    private void refused(Write write, Story story, int subject, int from, int to, int error) {
        e.refused("(" + subject + ", " + from + ", " + to + ")", story, x -> write.of(x, subject, from, to), error);
    }

    private void writeErrors(String chapter, Write write, String noSuch, String badValue, String notPossible) {
        e.chapter(chapter);
        e.sentence(noSuch);
        for (int subject : new int[] {LEAST, -16, -1, 16, 32, 1 << 28, MOST}) {
            refused(write, BUSY, subject, 0, 40, NO_SUCH);
        }
        for (int day : new int[] {LEAST, -365, -1, 3650, 1 << 30, MOST}) {
            refused(write, BUSY, 0, day, 40, NO_SUCH);
            refused(write, BUSY, 0, 0, day, NO_SUCH);
            refused(write, BUSY, 0, day, day, NO_SUCH);
        }
        e.due("the first and the last subject", write.of(State.told(BUSY), 0, 130, 130) + write.of(State.told(BUSY), 15, 130, 130),
            chapter.endsWith("mark") ? 2 : 0);
        e.sentence(badValue);
        refused(write, BUSY, 0, 1, 0, BAD_VALUE);
        refused(write, BUSY, 0, 35, 34, BAD_VALUE);
        refused(write, BUSY, 0, 130, 0, BAD_VALUE);
        refused(write, BUSY, 0, 131, 130, BAD_VALUE);
        refused(write, BUSY, 0, 3649, 3648, BAD_VALUE);
        e.due("the last day is the first one", write.of(State.told(BUSY), 15, 130, 130), chapter.endsWith("mark") ? 1 : 0);
        e.sentence(notPossible);
        refused(write, BUSY, 0, 0, 131, NOT_POSSIBLE);
        refused(write, BUSY, 0, 131, 131, NOT_POSSIBLE);
        refused(write, BUSY, 0, 0, 3649, NOT_POSSIBLE);
        refused(write, BUSY, 0, 3649, 3649, NOT_POSSIBLE);
        refused(write, x -> x.save(0), 0, 0, 1, NOT_POSSIBLE);
        e.due("the last day is today", write.of(State.told(BUSY), 15, 126, 130), chapter.endsWith("mark") ? 5 : 0);
        e.due("today is the last day", write.of(Diaries.diary(2, 2, 3649), 0, 0, 3649), chapter.endsWith("mark") ? 3650 : 0);
        e.due("today is the first day", write.of(new FoldedMonths(), 0, 0, 0), chapter.endsWith("mark") ? 1 : 0);
    }
}
