/** Each promise of the document by itself: ordinary inputs, the edges that it names, wrong inputs. */
public final class PromisesTest {
    private static final int NO_SUCH = -1, BAD_VALUE = -2, BAD_TEXT = -3, TOO_MANY = -4, NOT_POSSIBLE = -5, NONE = -6;
    private static final int EMPTY = 0, SAME = 1, RUNS = 2, PLACES = 3, PLAIN = 4;

    private static Check check;

    public static void main(String[] args) {
        check = new Check("promises");
        newObject();
        set();
        pass();
        youngMonths();
        formsOfMonths();
        mark();
        markOfNamedMonth();
        namesThatStay();
        clear();
        marks();
        isMarked();
        both();
        crowded();
        longest();
        nextMark();
        rowOfUnfolded();
        ofMonth();
        inMonth();
        dayOf();
        dateOf();
        count();
        sizeAs();
        workOf();
        bestOpen();
        put();
        wipe();
        fault();
        carryOut();
        undo();
        save();
        restore();
        check.end();
    }

    private static void due(String call, long got, long want) {
        check.due(call, got, want);
    }

    /** A diary with KEEP as 1 and some OPEN, at the first day of the month 4, nothing marked. */
    private static FoldedMonths fourOldMonths(int open) {
        FoldedMonths x = new FoldedMonths();
        x.set(FoldedMonths.KEEP, 1);
        x.set(FoldedMonths.OPEN, open);
        x.pass(120);
        return x;
    }

    private static int put(FoldedMonths x, String text) {
        int length = x.count(11);
        for (int i = 0; i < text.length(); i++) {
            length = x.put(text.charAt(i));
        }
        return length;
    }

    private static int faultOf(String text) {
        FoldedMonths x = new FoldedMonths();
        put(x, text);
        return x.fault();
    }

    private static void dueCounts(String when, FoldedMonths x, int work, int unfolded, int folded) {
        due(when + ": the work", x.count(5), work);
        due(when + ": unfolded so far", x.count(6), unfolded);
        due(when + ": folded so far", x.count(7), folded);
    }

    /** The row of unfolded months as a number of digits, the first month first (only for months 1 to 9). */
    private static int row(FoldedMonths x) {
        int row = 0;
        for (int place = 0; place < x.count(3); place++) {
            for (int month = 0; month < 10; month++) {
                if (x.ofMonth(month, 9) == place) {
                    row = row * 10 + month;
                }
            }
        }
        return row;
    }

    // Promise 1
    private static void newObject() {
        FoldedMonths x = new FoldedMonths();
        int[] counts = {0, 0, 0, 0, 16, 0, 0, 0, 0, 2, 2, 0, 0};
        for (int what = 0; what < counts.length; what++) {
            due("new: count(" + what + ")", x.count(what), counts[what]);
        }
        for (int month = 0; month < 120; month++) {
            due("new: marks of a month", x.ofMonth(month, 7), 0);
            due("new: form of a month", x.ofMonth(month, 4), PLAIN);
            due("new: a month names none", x.ofMonth(month, 6), NONE);
        }
        due("new: undo()", x.undo(), NOT_POSSIBLE);
        due("new: restore(0)", x.restore(0), NOT_POSSIBLE);
        due("new: fault()", x.fault(), 0);
    }

    // Promise 2
    private static void set() {
        FoldedMonths x = new FoldedMonths();
        due("set KEEP", x.set(FoldedMonths.KEEP, 12), 2);
        due("set KEEP again", x.set(FoldedMonths.KEEP, 1), 12);
        due("set OPEN", x.set(FoldedMonths.OPEN, 6), 2);
        due("set OPEN again", x.set(FoldedMonths.OPEN, 0), 6);
        due("set is a change", x.count(12), 4);
        due("set(-1, 1)", x.set(-1, 1), BAD_VALUE);
        due("set(2, 1)", x.set(2, 1), BAD_VALUE);
        due("set KEEP 0", x.set(FoldedMonths.KEEP, 0), BAD_VALUE);
        due("set KEEP 13", x.set(FoldedMonths.KEEP, 13), BAD_VALUE);
        due("set OPEN -1", x.set(FoldedMonths.OPEN, -1), BAD_VALUE);
        due("set OPEN 7", x.set(FoldedMonths.OPEN, 7), BAD_VALUE);
        due("errors are no changes", x.count(12), 4);
        due("KEEP stays", x.count(9), 1);
        due("OPEN stays", x.count(10), 0);
        x.pass(1);
        due("set KEEP late", x.set(FoldedMonths.KEEP, 1), NOT_POSSIBLE);
        due("set KEEP late, out of range", x.set(FoldedMonths.KEEP, 13), BAD_VALUE);
        due("set OPEN late", x.set(FoldedMonths.OPEN, 3), 0);

        FoldedMonths y = fourOldMonths(3);
        y.mark(0, 0, 0);
        y.mark(1, 31, 31);
        y.mark(2, 59, 59);
        due("the row", row(y), 12);
        due("unfolded", y.count(3), 3);
        int work = y.count(5);
        due("OPEN is less", y.set(FoldedMonths.OPEN, 1), 3);
        due("the first two are folded again", row(y), 2);
        due("each is work", y.count(5) - work, 4);
        due("OPEN is more", y.set(FoldedMonths.OPEN, 6), 1);
        due("nothing is unfolded by it", row(y), 2);
    }

    // Promise 3
    private static void pass() {
        FoldedMonths x = new FoldedMonths();
        due("pass(0)", x.pass(0), BAD_VALUE);
        due("pass(-1)", x.pass(-1), BAD_VALUE);
        due("pass(401)", x.pass(401), BAD_VALUE);
        due("pass is no change then", x.count(12), 0);
        due("pass(1)", x.pass(1), 1);
        due("pass is a change", x.count(12), 1);
        for (int i = 1; i <= 9; i++) {
            due("pass(400)", x.pass(400), 1 + i * 400);
        }
        due("pass(49), too far", x.pass(49), TOO_MANY);
        due("pass(401) at the end", x.pass(401), BAD_VALUE);
        due("pass(48)", x.pass(48), 3649);
        due("pass(1), too far", x.pass(1), TOO_MANY);
        due("today", x.count(0), 3649);

        FoldedMonths y = new FoldedMonths();
        y.mark(0, 0, 0);
        y.pass(31);
        y.mark(0, 31, 31);
        y.mark(1, 31, 31);
        y.pass(27);
        due("KEEP is 2, in the month 1: no OLD month", y.count(2), 0);
        y.pass(1);
        due("in the month 2: one OLD month", y.count(2), 1);
        due("it is folded", y.ofMonth(0, 4), RUNS);
        dueCounts("one month became OLD", y, 2, 0, 1);
        y.pass(400);
        due("in the month 15", y.count(1), 15);
        due("OLD months", y.count(2), 14);
        due("the month 1", y.ofMonth(1, 4), PLACES);
        dueCounts("13 more became OLD", y, 2 + 2, 0, 14);

        FoldedMonths z = new FoldedMonths();
        z.pass(59);
        z.mark(0, 0, 0);
        z.mark(0, 31, 31);
        due("the month 0 is OLD, 1 is young", z.ofMonth(1, 4), PLAIN);
        z.set(FoldedMonths.OPEN, 0);
        z.pass(31);
        due("the month 1 became OLD: as the month 0", z.ofMonth(1, 6), 0);
    }

    private static void youngMonths() {
        FoldedMonths x = new FoldedMonths();
        x.set(FoldedMonths.KEEP, 3);
        x.pass(90);
        for (int month = 0; month < 120; month++) {
            due("OLD, the month " + month, x.ofMonth(month, 2), month == 0 ? 1 : 0);
        }
        due("a young month is PLAIN", x.ofMonth(1, 4), PLAIN);
        due("a young month is not unfolded", x.ofMonth(1, 3), 0);
        x.mark(0, 40, 41);
        due("nor if it was marked", x.count(3), 0);
        x.isMarked(0, 40);
        due("nor if it was looked at", x.count(3), 0);
        dueCounts("young months are no work", x, 0, 0, 1);
    }

    private static void formsOfMonths() {
        FoldedMonths x = new FoldedMonths();
        x.set(FoldedMonths.KEEP, 1);
        x.pass(30);
        for (int subject = 0; subject < 16; subject++) {
            for (int day = subject % 2; day < 31; day += 2) {
                x.mark(subject, day, day);
            }
        }
        due("many marks", x.ofMonth(0, 7), 8 * 16 + 8 * 15);
        x.pass(1);
        due("the smallest is PLAIN", x.ofMonth(0, 4), PLAIN);
        due("folded as PLAIN", x.ofMonth(0, 3), 0);
        due("PLAIN: its size", x.ofMonth(0, 5), 16);
        dueCounts("PLAIN", x, 16, 0, 1);
        due("PLAIN is unfolded when it is looked at", x.isMarked(0, 0), 1);
        due("PLAIN, unfolded", x.ofMonth(0, 3), 1);
        dueCounts("PLAIN, unfolded", x, 32, 1, 1);

        // 45 marks in 15 runs: RUNS and PLACES and PLAIN are of one size, RUNS has the lowest number.
        FoldedMonths y = new FoldedMonths();
        y.set(FoldedMonths.KEEP, 1);
        y.pass(30);
        for (int subject = 0; subject < 15; subject++) {
            y.mark(subject, subject, subject + 2);
        }
        due("three sizes are the same, RUNS", y.sizeAs(0, RUNS), 16);
        due("three sizes are the same, PLACES", y.sizeAs(0, PLACES), 16);
        y.pass(1);
        due("of several forms the one with the lowest number", y.ofMonth(0, 4), RUNS);

        FoldedMonths z = fourOldMonths(0);
        z.mark(4, 0, 0);
        z.mark(4, 2, 2);
        due("two runs, two marks: PLACES", z.ofMonth(0, 4), PLACES);
        due("two runs, two marks: the size", z.ofMonth(0, 5), 2);
        z.mark(4, 1, 1);
        due("one run: RUNS", z.ofMonth(0, 4), RUNS);
        z.mark(4, 31, 33);
        due("as the month 0", z.ofMonth(1, 4), SAME);
        due("names it", z.ofMonth(1, 6), 0);
        due("1 word", z.ofMonth(1, 5), 1);
        z.mark(4, 59, 61);
        due("of several the lowest that is not SAME", z.ofMonth(2, 6), 0);
        z.mark(5, 90, 92);
        due("other subjects are not the same", z.ofMonth(3, 4), RUNS);
        z.clear(4, 0, 2);
        due("EMPTY again", z.ofMonth(0, 4), EMPTY);
        due("EMPTY: its size", z.ofMonth(0, 5), 0);
    }

    // Promise 4
    private static void mark() {
        FoldedMonths x = new FoldedMonths();
        x.pass(40);
        due("mark(-1, 0, 0)", x.mark(-1, 0, 0), NO_SUCH);
        due("mark(16, 5, 4)", x.mark(16, 5, 4), NO_SUCH);
        due("mark(0, -1, 0)", x.mark(0, -1, 0), NO_SUCH);
        due("mark(0, 3650, 0)", x.mark(0, 3650, 0), NO_SUCH);
        due("mark(0, 5, -1)", x.mark(0, 5, -1), NO_SUCH);
        due("mark(0, 0, 3650)", x.mark(0, 0, 3650), NO_SUCH);
        due("mark(0, 50, 49)", x.mark(0, 50, 49), BAD_VALUE);
        due("mark(0, 0, 41)", x.mark(0, 0, 41), NOT_POSSIBLE);
        due("errors are no changes", x.count(12), 1);
        due("nothing is marked", x.count(8), 0);
        due("mark(15, 40, 40)", x.mark(15, 40, 40), 1);
        due("mark(15, 29, 40)", x.mark(15, 29, 40), 11);
        due("mark(15, 29, 40) again", x.mark(15, 29, 40), 0);
        due("a change each time", x.count(12), 4);
        due("the month 0", x.inMonth(15, 0), 2);
        due("the month 1", x.inMonth(15, 1), 10);

        FoldedMonths y = fourOldMonths(1);
        dueCounts("four EMPTY months", y, 0, 0, 4);
        due("mark(0, 2, 3)", y.mark(0, 2, 3), 2);
        due("the EMPTY one is unfolded", row(y), 0);
        due("one is unfolded", y.count(3), 1);
        dueCounts("it had no words", y, 0, 1, 4);
        due("mark(0, 30, 60), months 0 to 2", y.mark(0, 30, 60), 31);
        due("the last one is unfolded", row(y), 2);
        dueCounts("0 and 1 were folded, 2 words each", y, 2 + 2, 3, 6);
        due("mark(0, 2, 3) is left alone", y.mark(0, 2, 3), 0);
        due("still the same row", row(y), 2);
        dueCounts("left alone", y, 4, 3, 6);
        due("mark(0, 2, 60), the month 2 is left alone", y.mark(0, 2, 60), 26);
        due("only the month 0 was unfolded", y.ofMonth(0, 9), 0);
        dueCounts("0 unfolded (2), 2 folded (2)", y, 8, 4, 7);

        FoldedMonths z = fourOldMonths(0);
        due("OPEN is 0", z.mark(0, 2, 3), 2);
        due("folded again at once", z.count(3), 0);
        dueCounts("OPEN is 0", z, 2, 1, 5);
        due("the day is marked", z.isMarked(0, 2), 1);
        dueCounts("answered all the same", z, 6, 2, 6);
    }

    private static void markOfNamedMonth() {
        FoldedMonths x = fourOldMonths(0);
        x.mark(0, 0, 0);
        x.mark(0, 31, 31);
        x.mark(0, 59, 59);
        x.mark(0, 90, 90);
        due("the month 1 names 0", x.ofMonth(1, 6), 0);
        due("the month 2 names 0", x.ofMonth(2, 6), 0);
        due("the month 3 names 0", x.ofMonth(3, 6), 0);
        dueCounts("three are SAME", x, 2 + 1 + 1 + 1, 4, 8);
        due("the month 0 changes", x.mark(1, 5, 5), 1);
        due("the month 1 is folded anew", x.ofMonth(1, 4), RUNS);
        due("the month 2 names 1 now", x.ofMonth(2, 6), 1);
        due("the month 3 names 1 now", x.ofMonth(3, 6), 1);
        due("the month 0: two marks in two runs", x.ofMonth(0, 4), PLACES);
        dueCounts("anew 2 + 1 + 1, unfolded 2, folded 2", x, 5 + 4 + 2 + 2, 5, 12);
        due("the month 2 changes, nobody names it", x.mark(1, 60, 60), 1);
        due("the month 3 names 1 still", x.ofMonth(3, 6), 1);
        dueCounts("unfolded 1, folded 2", x, 13 + 1 + 2, 6, 13);
        due("the month 1 gets the marks of the month 0", x.mark(1, 36, 36), 1);
        due("the month 1 names 0", x.ofMonth(1, 6), 0);
        due("the month 3 is by itself", x.ofMonth(3, 4), RUNS);

        // While the changing month is still folded, it must not be named again.
        FoldedMonths y = fourOldMonths(6);
        y.mark(0, 0, 0);
        y.mark(0, 31, 31);
        y.set(FoldedMonths.OPEN, 0);
        due("the month 1 names 0", y.ofMonth(1, 6), 0);
        y.set(FoldedMonths.OPEN, 6);
        y.clear(0, 0, 0);
        due("the month 1 does not name 0", y.ofMonth(1, 6), NONE);
        due("the month 1 stands by itself", y.ofMonth(1, 4), RUNS);
        due("an unfolded month without a mark is PLAIN", y.ofMonth(0, 5), 16);
    }

    private static void namesThatStay() {
        FoldedMonths x = fourOldMonths(0);
        x.mark(0, 31, 31);
        x.mark(0, 59, 59);
        due("the month 2 names 1", x.ofMonth(2, 6), 1);
        x.set(FoldedMonths.OPEN, 1);
        x.isMarked(0, 31);
        due("the month 1 is unfolded", row(x), 1);
        due("the month 2 goes on naming it", x.ofMonth(2, 6), 1);
        due("no month could be named now", x.sizeAs(2, SAME), NONE);
        x.mark(0, 0, 0);
        due("the month 1 is folded again", x.ofMonth(1, 4), RUNS);
        x.set(FoldedMonths.OPEN, 0);
        x.isMarked(0, 31);
        due("the month 1 is SAME now", x.ofMonth(1, 6), 0);
        due("the month 2 names the month 1 still", x.ofMonth(2, 6), 1);
        int work = x.count(5);
        x.mark(0, 1, 1);
        due("the month 1 is folded anew", x.ofMonth(1, 4), RUNS);
        due("the month 2 is not", x.ofMonth(2, 6), 1);
        due("anew 2, unfolded 2, folded 2", x.count(5) - work, 6);
        x.clear(0, 31, 31);
        due("the month 1 is EMPTY", x.ofMonth(1, 4), EMPTY);
        due("the month 2 is by itself", x.ofMonth(2, 4), RUNS);
    }

    // Promise 5
    private static void clear() {
        FoldedMonths x = new FoldedMonths();
        x.pass(40);
        x.mark(3, 25, 35);
        int changes = x.count(12);
        due("clear(-1, 0, 0)", x.clear(-1, 0, 0), NO_SUCH);
        due("clear(16, 0, 0)", x.clear(16, 0, 0), NO_SUCH);
        due("clear(0, -1, 0)", x.clear(0, -1, 0), NO_SUCH);
        due("clear(0, 1, 3650)", x.clear(0, 1, 3650), NO_SUCH);
        due("clear(0, 50, 49)", x.clear(0, 50, 49), BAD_VALUE);
        due("clear(0, 0, 41)", x.clear(0, 0, 41), NOT_POSSIBLE);
        due("errors are no changes", x.count(12), changes);
        due("clear(3, 30, 31)", x.clear(3, 30, 31), 2);
        due("clear(3, 0, 40)", x.clear(3, 0, 40), 9);
        due("clear(3, 0, 40) again", x.clear(3, 0, 40), 0);
        due("changes all the same", x.count(12), changes + 3);
        due("no mark", x.count(8), 0);

        FoldedMonths y = fourOldMonths(1);
        y.mark(2, 5, 9);
        y.mark(2, 59, 60);
        due("row", row(y), 2);
        int work = y.count(5);
        due("no marked day is meant in 0", y.clear(2, 10, 40), 0);
        due("left alone", row(y), 2);
        due("no work", y.count(5), work);
        due("the month 0", y.clear(2, 7, 30), 3);
        due("unfolded", y.ofMonth(0, 3), 1);
        due("0 unfolded (2), 2 folded (2)", y.count(5) - work, 4);
        due("all", y.clear(2, 0, 119), 4);
        due("no mark is left", y.count(8), 0);
        due("the month 2 is the last of the row", row(y), 2);
        due("the month 0 is EMPTY", y.ofMonth(0, 4), EMPTY);
    }

    // Promise 6
    private static void marks() {
        FoldedMonths x = fourOldMonths(2);
        x.mark(7, 30, 92);
        x.mark(0, 0, 0);
        x.mark(0, 31, 31);
        int[] seen = {x.count(5), x.count(6)};
        due("whole months", x.marks(7, 0, 119), 63);
        due("whole months to the last day", x.marks(7, 31, 3649), 62);
        due("a whole month", x.marks(7, 59, 89), 31);
        due("not looked at: work", x.count(5), seen[0]);
        due("not looked at: unfolded", x.count(6), seen[1]);
        due("row", row(x), 1);
        due("row, how many", x.count(3), 2);
        due("the first and the last", x.marks(7, 60, 91), 32);
        due("both are looked at, in order", row(x), 23);
        due("one month, in part", x.marks(7, 32, 32), 1);
        due("looked at", row(x), 31);
        due("only the first one", x.marks(7, 60, 119), 33);
        due("the last is whole", row(x), 12);
        due("only the last one", x.marks(7, 31, 110), 62);
        due("the first is whole", row(x), 23);
        due("no mark of the subject", x.marks(9, 1, 5), 0);
        due("looked at all the same", row(x), 30);
        due("another subject", x.marks(0, 0, 3649), 2);
        due("marks(-1, 0, 0)", x.marks(-1, 0, 0), NO_SUCH);
        due("marks(16, 3, 2)", x.marks(16, 3, 2), NO_SUCH);
        due("marks(0, -1, 0)", x.marks(0, -1, 0), NO_SUCH);
        due("marks(0, 5, 3650)", x.marks(0, 5, 3650), NO_SUCH);
        due("marks(0, 6, 5)", x.marks(0, 6, 5), BAD_VALUE);
    }

    // Promise 7
    private static void isMarked() {
        FoldedMonths x = fourOldMonths(1);
        x.mark(0, 30, 31);
        due("marked", x.isMarked(0, 30), 1);
        due("looked at", x.ofMonth(0, 3), 1);
        due("marked, the next month", x.isMarked(0, 31), 1);
        due("looked at", row(x), 1);
        due("not marked", x.isMarked(0, 32), 0);
        due("another subject", x.isMarked(1, 30), 0);
        due("looked at for it, too", x.ofMonth(0, 3), 1);
        int work = x.count(5);
        due("an EMPTY month", x.isMarked(0, 60), 0);
        due("nothing happens", x.ofMonth(0, 3), 1);
        due("a day to come", x.isMarked(0, 3649), 0);
        due("no work", x.count(5), work);
        int changes = x.count(12);
        due("isMarked(-1, 0)", x.isMarked(-1, 0), NO_SUCH);
        due("isMarked(16, 0)", x.isMarked(16, 0), NO_SUCH);
        due("isMarked(0, -1)", x.isMarked(0, -1), NO_SUCH);
        due("isMarked(0, 3650)", x.isMarked(0, 3650), NO_SUCH);
        due("no change", x.count(12), changes);
    }

    // Promise 8
    private static void both() {
        FoldedMonths x = fourOldMonths(2);
        x.mark(0, 25, 35);
        x.mark(1, 30, 95);
        due("row", row(x), 23);
        due("both", x.both(0, 1, 0, 3649), 6);
        due("all were looked at, in ascending order", row(x), 23);
        due("unfolded so far", x.count(6), 4 + 4);
        due("in part", x.both(1, 0, 31, 33), 3);
        due("its month is at the end", row(x), 31);
        due("a subject with itself", x.both(1, 1, 0, 119), 66);
        due("never", x.both(0, 5, 0, 40), 0);
        due("both(-1, 0, 0, 0)", x.both(-1, 0, 0, 0), NO_SUCH);
        due("both(16, 0, 1, 0)", x.both(16, 0, 1, 0), NO_SUCH);
        due("both(0, -1, 1, 0)", x.both(0, -1, 1, 0), NO_SUCH);
        due("both(0, 16, 0, 0)", x.both(0, 16, 0, 0), NO_SUCH);
        due("both(0, 1, -1, 0)", x.both(0, 1, -1, 0), NO_SUCH);
        due("both(0, 1, 0, 3650)", x.both(0, 1, 0, 3650), NO_SUCH);
        due("both(0, 1, 1, 0)", x.both(0, 1, 1, 0), BAD_VALUE);
    }

    // Promise 9
    private static void crowded() {
        FoldedMonths x = fourOldMonths(1);
        for (int subject = 0; subject < 16; subject++) {
            x.mark(subject, subject, 30);
        }
        x.mark(0, 31, 33);
        x.mark(9, 33, 34);
        due("row", row(x), 1);
        for (int least = 1; least <= 16; least++) {
            due("crowded(" + least + ", 0, 30)", x.crowded(least, 0, 30), 31 - (least - 1));
        }
        due("the month 0 is unfolded", x.ofMonth(0, 3), 1);
        due("two months", x.crowded(2, 28, 40), 4);
        due("the last one is unfolded", row(x), 1);
        due("days to come", x.crowded(1, 33, 3649), 2);
        due("crowded(0, 0, 0)", x.crowded(0, 0, 0), BAD_VALUE);
        due("crowded(17, 0, 0)", x.crowded(17, 0, 0), BAD_VALUE);
        due("crowded(1, 1, 0)", x.crowded(1, 1, 0), BAD_VALUE);
        due("crowded(0, -1, 0)", x.crowded(0, -1, 0), NO_SUCH);
        due("crowded(17, 5, 3650)", x.crowded(17, 5, 3650), NO_SUCH);
        due("crowded(1, 3650, 0)", x.crowded(1, 3650, 0), NO_SUCH);
    }

    // Promise 10
    private static void longest() {
        FoldedMonths x = fourOldMonths(1);
        x.mark(0, 2, 5);
        x.mark(0, 28, 32);
        x.mark(0, 40, 44);
        x.mark(0, 95, 96);
        x.mark(1, 60, 60);
        due("from month to month", x.longest(0, 0, 119, 0), 5);
        due("of several the first one", x.longest(0, 0, 119, 1), 28);
        due("among the days that are meant", x.longest(0, 0, 30, 0), 4);
        due("among the days that are meant, its first day", x.longest(0, 0, 30, 1), 2);
        due("cut at its start", x.longest(0, 30, 119, 1), 40);
        due("cut at its end", x.longest(0, 34, 42, 0), 3);
        due("one day", x.longest(0, 95, 95, 1), 95);
        due("not marked: no day", x.longest(2, 0, 119, 0), 0);
        due("not marked: no first day", x.longest(2, 0, 119, 1), NONE);
        due("not marked among them", x.longest(0, 6, 27, 1), NONE);
        due("looked at, as the month has a mark", x.ofMonth(0, 3), 1);
        x.isMarked(1, 60);
        due("row", row(x), 2);
        int unfolded = x.count(6);
        due("its months", x.longest(0, 0, 3649, 0), 5);
        due("0, 1 and 3 were looked at, 2 was not", x.count(6) - unfolded, 3);
        due("row", row(x), 3);
        x.longest(0, 0, 31, 0);
        due("the last month is looked at", row(x), 1);
        due("longest(-1, 0, 0, 5)", x.longest(-1, 0, 0, 5), NO_SUCH);
        due("longest(16, 0, 0, 0)", x.longest(16, 0, 0, 0), NO_SUCH);
        due("longest(0, -1, 0, 0)", x.longest(0, -1, 0, 0), NO_SUCH);
        due("longest(0, 0, 3650, 2)", x.longest(0, 0, 3650, 2), NO_SUCH);
        due("longest(0, 0, 0, -1)", x.longest(0, 0, 0, -1), BAD_VALUE);
        due("longest(0, 0, 0, 2)", x.longest(0, 0, 0, 2), BAD_VALUE);
        due("longest(0, 1, 0, 0)", x.longest(0, 1, 0, 0), BAD_VALUE);
    }

    // Promise 11
    private static void nextMark() {
        FoldedMonths x = fourOldMonths(1);
        x.mark(0, 3, 3);
        x.mark(1, 40, 40);
        x.mark(0, 70, 71);
        x.mark(0, 119, 120);
        int unfolded = x.count(6);
        due("the day itself", x.nextMark(0, 3), 3);
        due("only its month", x.count(6) - unfolded, 1);
        unfolded = x.count(6);
        due("a later month", x.nextMark(0, 4), 70);
        due("the month 0 stands open, 1 has no mark of it, 2 is unfolded", x.count(6) - unfolded, 1);
        due("row", row(x), 2);
        due("in the middle", x.nextMark(0, 71), 71);
        due("behind it", x.nextMark(0, 72), 119);
        due("from a month without marks", x.nextMark(0, 35), 70);
        due("a young month", x.nextMark(0, 120), 120);
        due("none", x.nextMark(0, 121), NONE);
        due("none of it", x.nextMark(5, 0), NONE);
        due("none any more, in a folded month", x.nextMark(1, 41), NONE);
        due("looked at", row(x), 1);
        due("the last day", x.nextMark(0, 3649), NONE);
        due("nextMark(-1, 0)", x.nextMark(-1, 0), NO_SUCH);
        due("nextMark(16, 0)", x.nextMark(16, 0), NO_SUCH);
        due("nextMark(0, -1)", x.nextMark(0, -1), NO_SUCH);
        due("nextMark(0, 3650)", x.nextMark(0, 3650), NO_SUCH);
    }

    private static void rowOfUnfolded() {
        FoldedMonths x = new FoldedMonths();
        x.set(FoldedMonths.OPEN, 6);
        x.pass(400);
        for (int month = 1; month <= 6; month++) {
            x.mark(0, x.ofMonth(month, 0), x.ofMonth(month, 0) + month);
        }
        due("six months stand open", row(x), 123456);
        x.isMarked(0, x.ofMonth(3, 0));
        due("one that is looked at goes to the end", row(x), 124563);
        x.mark(1, x.ofMonth(1, 0), x.ofMonth(1, 0));
        due("also one that is marked", row(x), 245631);
        due("no work so far", x.count(5), 0);
        x.mark(0, x.ofMonth(7, 0), x.ofMonth(7, 0));
        due("the first one is folded again", row(x), 456317);
        due("its size is work", x.count(5), 2);
        x.set(FoldedMonths.OPEN, 4);
        due("the first two are folded again", row(x), 6317);
        x.isMarked(1, x.ofMonth(8, 0));
        due("an EMPTY one is not unfolded", row(x), 6317);
        x.isMarked(0, x.ofMonth(12, 0));
        due("a young one is not unfolded", row(x), 6317);
    }

    // Promise 12
    private static void ofMonth() {
        FoldedMonths x = fourOldMonths(1);
        x.mark(15, 31, 40);
        x.mark(2, 35, 36);
        x.mark(2, 59, 59);
        x.mark(0, 59, 59);
        int[] folded = {31, 28, 1, 0, RUNS, 3, NONE, 12, 1 << 15 | 1 << 2, NONE};
        int[] unfolded = {59, 31, 1, 1, PLAIN, 16, NONE, 2, 1 << 2 | 1, 0};
        int[] empty = {90, 30, 1, 0, EMPTY, 0, NONE, 0, 0, NONE};
        int[] young = {120, 31, 0, 0, PLAIN, 16, NONE, 0, 0, NONE};
        int[] last = {3619, 31, 0, 0, PLAIN, 16, NONE, 0, 0, NONE};
        for (int what = 0; what < 10; what++) {
            due("ofMonth(1, " + what + ")", x.ofMonth(1, what), folded[what]);
            due("ofMonth(2, " + what + ")", x.ofMonth(2, what), unfolded[what]);
            due("ofMonth(3, " + what + ")", x.ofMonth(3, what), empty[what]);
            due("ofMonth(4, " + what + ")", x.ofMonth(4, what), young[what]);
            due("ofMonth(119, " + what + ")", x.ofMonth(119, what), last[what]);
        }
        due("the month 12 is the first one of the year 1", x.ofMonth(12, 0), 365);
        due("ofMonth(-1, 0)", x.ofMonth(-1, 0), NO_SUCH);
        due("ofMonth(120, 10)", x.ofMonth(120, 10), NO_SUCH);
        due("ofMonth(0, -1)", x.ofMonth(0, -1), BAD_VALUE);
        due("ofMonth(0, 10)", x.ofMonth(0, 10), BAD_VALUE);
        due("nothing is looked at", row(x), 2);
    }

    // Promise 13
    private static void inMonth() {
        FoldedMonths x = fourOldMonths(1);
        x.mark(6, 20, 70);
        due("in the month 0, folded", x.inMonth(6, 0), 11);
        due("in the month 1, folded", x.inMonth(6, 1), 28);
        due("in the month 2, unfolded", x.inMonth(6, 2), 12);
        due("in the month 3", x.inMonth(6, 3), 0);
        due("in a month to come", x.inMonth(6, 119), 0);
        due("another subject", x.inMonth(5, 1), 0);
        due("nothing is looked at", row(x), 2);
        due("inMonth(-1, 0)", x.inMonth(-1, 0), NO_SUCH);
        due("inMonth(16, 0)", x.inMonth(16, 0), NO_SUCH);
        due("inMonth(0, -1)", x.inMonth(0, -1), NO_SUCH);
        due("inMonth(0, 120)", x.inMonth(0, 120), NO_SUCH);
    }

    // Promise 14
    private static void dayOf() {
        FoldedMonths x = new FoldedMonths();
        int[] lengths = {31, 28, 31, 30, 31, 30, 31, 31, 30, 31, 30, 31};
        int day = 0;
        for (int year = 0; year < 10; year++) {
            for (int month = 1; month <= 12; month++) {
                due("the first day", x.dayOf(year, month, 1), day);
                due("the day 0", x.dayOf(year, month, 0), NO_SUCH);
                day += lengths[month - 1];
                due("the last day", x.dayOf(year, month, lengths[month - 1]), day - 1);
                due("a day more", x.dayOf(year, month, lengths[month - 1] + 1), NO_SUCH);
            }
        }
        due("dayOf(-1, 1, 1)", x.dayOf(-1, 1, 1), NO_SUCH);
        due("dayOf(10, 1, 1)", x.dayOf(10, 1, 1), NO_SUCH);
        due("dayOf(0, 0, 1)", x.dayOf(0, 0, 1), NO_SUCH);
        due("dayOf(0, 13, 1)", x.dayOf(0, 13, 1), NO_SUCH);
        due("dayOf(0, 1, -1)", x.dayOf(0, 1, -1), NO_SUCH);
        due("dayOf(MAX, MAX, MAX)", x.dayOf(Integer.MAX_VALUE, Integer.MAX_VALUE, Integer.MAX_VALUE), NO_SUCH);
    }

    // Promise 15
    private static void dateOf() {
        FoldedMonths x = new FoldedMonths();
        for (int day = 0; day < 3650; day++) {
            // An object is used for at most 512 calls.
            x = day % 50 == 0 ? new FoldedMonths() : x;
            int through = x.dateOf(day, 3);
            due("there and back", x.dayOf(x.dateOf(day, 0), x.dateOf(day, 1), x.dateOf(day, 2)), day);
            due("the month, numbered through", through, day / 365 * 12 + x.dateOf(day, 1) - 1);
        }
        x = new FoldedMonths();
        due("dateOf(0, 0)", x.dateOf(0, 0), 0);
        due("dateOf(0, 1)", x.dateOf(0, 1), 1);
        due("dateOf(0, 2)", x.dateOf(0, 2), 1);
        due("dateOf(365, 0)", x.dateOf(365, 0), 1);
        due("dateOf(364, 1)", x.dateOf(364, 1), 12);
        due("dateOf(3649, 3)", x.dateOf(3649, 3), 119);
        due("dateOf(-1, 0)", x.dateOf(-1, 0), NO_SUCH);
        due("dateOf(3650, 4)", x.dateOf(3650, 4), NO_SUCH);
        due("dateOf(0, -1)", x.dateOf(0, -1), BAD_VALUE);
        due("dateOf(0, 4)", x.dateOf(0, 4), BAD_VALUE);
    }

    // Promise 16
    private static void count() {
        FoldedMonths x = fourOldMonths(1);
        x.pass(5);
        x.mark(0, 0, 8);
        x.mark(1, 31, 32);
        x.mark(1, 120, 125);
        put(x, "ma:");
        int[] counts = {125, 4, 4, 1, 2 + 16 + 0 + 0 + 16, 2, 2, 5, 17, 1, 1, 3, 6};
        for (int what = 0; what < counts.length; what++) {
            due("count(" + what + ")", x.count(what), counts[what]);
        }
        due("count(-1)", x.count(-1), BAD_VALUE);
        due("count(13)", x.count(13), BAD_VALUE);
        FoldedMonths y = new FoldedMonths();
        y.pass(31);
        due("the sizes of two young months", y.count(4), 32);
    }

    // Promise 17
    private static void sizeAs() {
        FoldedMonths x = fourOldMonths(1);
        x.mark(0, 0, 3);
        x.mark(0, 6, 6);
        x.mark(3, 6, 7);
        due("7 marks, EMPTY", x.sizeAs(0, EMPTY), NONE);
        due("7 marks, SAME", x.sizeAs(0, SAME), NONE);
        due("7 marks, RUNS", x.sizeAs(0, RUNS), 4);
        due("7 marks, PLACES", x.sizeAs(0, PLACES), 4);
        due("7 marks, PLAIN", x.sizeAs(0, PLAIN), 16);
        due("no mark, EMPTY", x.sizeAs(2, EMPTY), 0);
        due("no mark, SAME as the month 1", x.sizeAs(2, SAME), 1);
        due("no mark, RUNS", x.sizeAs(2, RUNS), 1);
        due("no mark, PLACES", x.sizeAs(2, PLACES), 1);
        due("the month 1 has no EMPTY one ahead of it", x.sizeAs(1, SAME), NONE);
        due("a month to come, SAME", x.sizeAs(119, SAME), 1);
        x.mark(0, 120, 120);
        due("a young month", x.sizeAs(4, RUNS), 2);
        due("a young month, SAME", x.sizeAs(4, SAME), NONE);
        x.mark(0, 31, 31);
        due("the month 1 is unfolded", x.sizeAs(4, SAME), NONE);
        x.set(FoldedMonths.OPEN, 0);
        due("the month 1 is folded", x.sizeAs(4, SAME), 1);
        due("not with a higher number", x.sizeAs(1, SAME), NONE);
        x.mark(0, 1, 5);
        x.mark(0, 59, 65);
        x.mark(3, 65, 66);
        due("as the month 0", x.sizeAs(2, SAME), 1);
        due("nothing is different", x.ofMonth(4, 4), PLAIN);
        due("sizeAs(-1, 0)", x.sizeAs(-1, 0), NO_SUCH);
        due("sizeAs(120, 5)", x.sizeAs(120, 5), NO_SUCH);
        due("sizeAs(0, -1)", x.sizeAs(0, -1), BAD_VALUE);
        due("sizeAs(0, 5)", x.sizeAs(0, 5), BAD_VALUE);
    }

    // Promise 18
    private static void workOf() {
        FoldedMonths x = fourOldMonths(1);
        x.mark(0, 0, 0);
        x.mark(1, 31, 32);
        x.mark(1, 62, 63);
        due("row", row(x), 2);
        due("its own month", x.workOf(62, 62), 0);
        due("0: unfolded, 2: folded", x.workOf(0, 5), 2 + 2);
        due("0, 1, 2 and 3", x.workOf(0, 3649), 2 + 2 + 2 + 2 + 2 + 2);
        due("an EMPTY and a young one", x.workOf(90, 3649), 0);
        due("nothing is different: row", row(x), 2);
        due("nothing is different: unfolded", x.count(6), 3);
        int work = x.count(5);
        x.both(0, 1, 0, 3649);
        due("both() makes that work", x.count(5) - work, 12);
        due("workOf(-1, 0)", x.workOf(-1, 0), NO_SUCH);
        due("workOf(0, 3650)", x.workOf(0, 3650), NO_SUCH);
        due("workOf(3650, 0)", x.workOf(3650, 0), NO_SUCH);
        due("workOf(1, 0)", x.workOf(1, 0), BAD_VALUE);
    }

    // Promise 19
    private static void bestOpen() {
        FoldedMonths x = fourOldMonths(0);
        due("no work in any way: the least one", x.bestOpen(0, 3649), 0);
        x.mark(0, 0, 0);
        x.mark(1, 31, 32);
        due("two months, twice", x.bestOpen(0, 58), 2);
        due("one month, twice", x.bestOpen(0, 30), 1);
        due("nothing is different: OPEN", x.count(10), 0);
        due("nothing is different: unfolded", x.count(3), 0);

        // The month 1 stands open without a mark: asked once, 5 and 6 would be the same work.
        FoldedMonths z = new FoldedMonths();
        z.set(FoldedMonths.KEEP, 1);
        z.set(FoldedMonths.OPEN, 1);
        z.pass(212);
        int[] firstDays = {0, 59, 90, 120, 151, 181};
        for (int i = 0; i < 6; i++) {
            z.mark(0, firstDays[i], firstDays[i] + i);
        }
        z.mark(0, 31, 31);
        z.clear(0, 31, 31);
        due("asked twice", z.bestOpen(0, 211), 6);

        FoldedMonths y = fourOldMonths(3);
        y.mark(0, 0, 0);
        y.mark(1, 31, 32);
        y.mark(2, 62, 64);
        due("all stand open, folding them is work", y.bestOpen(90, 119), 3);
        due("the last one of the row, and the others stay", y.bestOpen(62, 62), 3);
        due("row", row(y), 12);
        due("no change", y.count(12), 6);
        due("bestOpen(-1, 0)", y.bestOpen(-1, 0), NO_SUCH);
        due("bestOpen(0, 3650)", y.bestOpen(0, 3650), NO_SUCH);
        due("bestOpen(1, 0)", y.bestOpen(1, 0), BAD_VALUE);
    }

    // Promise 20
    private static void put() {
        FoldedMonths x = new FoldedMonths();
        due("put of 8", x.put(0x7031303b70313030L), 8);
        due("put of 1", x.put(0x3bL), 9);
        due("put of 0", x.put(0L), BAD_VALUE);
        due("put of a blank", x.put(0x20L), BAD_VALUE);
        due("put of 127", x.put(0x7fL), BAD_VALUE);
        due("put of 33 and 126", x.put(0x217eL), 11);
        due("put of 255", x.put(0xffL), BAD_VALUE);
        due("put of 128 at the front", x.put(0x8061616161616161L), BAD_VALUE);
        due("put of -1", x.put(-1L), BAD_VALUE);
        due("put of a gap", x.put(0x610061L), BAD_VALUE);
        due("put of no last character", x.put(0x6100L), BAD_VALUE);
        due("put of a bit above", x.put(0x0100000000000061L), BAD_VALUE);
        due("put of a bad sign in the middle", x.put(0x611f61L), BAD_VALUE);
        due("the length", x.count(11), 11);
        due("no change", x.count(12), 0);
        for (int i = 0; i < 8; i++) {
            x.put(0x6161616161616161L);
        }
        due("the length", x.count(11), 75);
        due("too many", x.put(0x616161616161L), TOO_MANY);
        due("a bad one is told first", x.put(0x616161610061L), BAD_VALUE);
        due("up to 80", x.put(0x6161616161L), 80);
        due("one more", x.put(0x61L), TOO_MANY);

        FoldedMonths y = new FoldedMonths();
        y.put(0x7031);
        y.put(0x32);
        due("in their order", y.carryOut(), 1);
        due("p12", y.count(0), 12);
    }

    // Promise 21
    private static void wipe() {
        FoldedMonths x = new FoldedMonths();
        due("wipe of nothing", x.wipe(), 0);
        put(x, "p1;p2");
        due("wipe", x.wipe(), 5);
        due("the length", x.count(11), 0);
        due("again", x.wipe(), 0);
        due("no change", x.count(12), 0);
        put(x, "p7");
        due("nothing is left of it", x.carryOut(), 1);
        due("p7", x.count(0), 7);
    }

    // Promise 22
    private static void fault() {
        String[] good = {"p0", "p1", "p3649", "p400;p1", "ma:0", "cp:3649", "ma:0-0", "ma:9-3", "ma:1,2,3-4,5;cb:7-8;p3",
            "mp:3600", "p10;p999;p2999"};
        for (String text : good) {
            due("fault of " + text, faultOf(text), NONE);
        }
        Object[][] bad = {{"", 0}, {"m", 1}, {"c", 1}, {"ma", 2}, {"ma:", 3}, {"ma:1-", 5}, {"ma:1,", 5}, {"p", 1},
            {"p1;", 3}, {"ma:1;", 5}, {"x", 0}, {";p1", 0}, {"P1", 0}, {"mq:1", 1}, {"m1:1", 1}, {"m`:1", 1}, {"ma;1", 2},
            {"ma1", 2}, {"ma:a", 3}, {"ma:-1", 3}, {"ma:00", 4}, {"ma:01", 4}, {"ma:3650", 6}, {"ma:36490", 7},
            {"ma:4000", 6}, {"ma:1-3650", 8}, {"ma:1-02", 6}, {"ma:1-2-3", 6}, {"ma:1--2", 5}, {"ma:1,,2", 5}, {"ma:1p2", 4},
            {"p3650", 4}, {"p00", 2}, {"p1-2", 2}, {"p1,2", 2}, {"p1;;p2", 3}, {"pa", 1}, {"ma:1;p", 6}, {"ma:1;q", 5},
            {"cb:7:8", 4}, {"p9999", 4}};
        for (Object[] text : bad) {
            due("fault of " + text[0], faultOf((String) text[0]), (Integer) text[1]);
        }
        String ranges = "ma:0" + ",0".repeat(38);
        due("the length of 39 ranges", ranges.length(), 80);
        due("fault of 39 ranges", faultOf(ranges), NONE);
        due("fault at the end of a full pad", faultOf("ma:10" + ",0".repeat(37) + "0"), 79);
        due("a full pad that ends too early", faultOf("ma:10" + ",0".repeat(37) + ","), 80);
        FoldedMonths x = new FoldedMonths();
        put(x, "p1");
        x.fault();
        due("the pad stays", x.count(11), 2);
        due("today stays", x.count(0), 0);
    }

    // Promise 23
    private static void carryOut() {
        FoldedMonths x = new FoldedMonths();
        due("an empty pad", x.carryOut(), BAD_TEXT);
        put(x, "p9;ma:1-3,5;cb:0;ca:2");
        due("four orders", x.carryOut(), 4);
        due("today", x.count(0), 9);
        due("marks", x.count(8), 3);
        due("the pad is empty", x.count(11), 0);
        due("one change", x.count(12), 1);
        x.mark(0, 0, 0);
        put(x, "cb:0");
        due("one order", x.carryOut(), 1);
        due("nothing more is done", x.isMarked(0, 0), 1);
        due("nor what an earlier text asked", x.count(8), 4);
        x.clear(0, 1, 1);
        put(x, "p1");
        due("one order again", x.carryOut(), 1);
        due("nothing of the earlier text", x.isMarked(0, 1), 0);
        x.undo();
        x.undo();
        x.undo();
        x.undo();
        put(x, "p1;x");
        due("a fault", x.carryOut(), BAD_TEXT);
        due("the pad stays", x.count(11), 4);
        due("nothing was carried out", x.count(0), 9);
        due("no change", x.count(12), 1);
        x.wipe();
        put(x, "ma:0,11,6;p1");
        due("a range to come", x.carryOut(), 0);
        due("the range ahead of it stays", x.isMarked(0, 0), 1);
        due("the range behind it does not come", x.isMarked(0, 6), 0);
        due("no order behind it", x.count(0), 9);
        due("a change all the same", x.count(12), 2);
        due("the pad is empty", x.count(11), 0);
        put(x, "p1;ma:5-4;p1");
        due("a range that is no range", x.carryOut(), 1);
        put(x, "p0;p1");
        due("no day", x.carryOut(), 0);
        put(x, "p400;p401;p1");
        due("401 days", x.carryOut(), 1);
        due("today", x.count(0), 410);
        put(x, "p400;p400;p400;p400;p400;p400;p400;p400;p40;p1");
        due("too many days", x.carryOut(), 8);
        due("today", x.count(0), 3610);
        due("six changes", x.count(12), 6);
        x.undo();
        due("undone as one", x.count(0), 410);
        put(x, "ma:0" + ",0".repeat(38));
        due("39 ranges", x.carryOut(), 1);
        put(x, "ca:0" + ",0".repeat(37) + ",1");
        due("39 ranges", x.carryOut(), 1);
        due("up to the last one", x.isMarked(0, 0) + x.isMarked(0, 1), 0);
        put(x, "cp:0-3649");
        due("clear of days to come", x.carryOut(), 0);
        put(x, "mp:31-33,0-1;cp:31,0");
        due("months are folded by orders, too", x.carryOut(), 2);
        due("the month 1 is the first one of the row", x.ofMonth(1, 9), 0);
        due("the month 0 is behind it", x.ofMonth(0, 9), 1);
    }

    // Promise 24
    private static void undo() {
        FoldedMonths x = new FoldedMonths();
        x.set(FoldedMonths.KEEP, 1);
        x.pass(60);
        x.mark(0, 0, 2);
        put(x, "p5");
        x.save(1);
        x.mark(0, 31, 33);
        x.isMarked(0, 0);
        due("row", row(x), 10);
        x.clear(0, 0, 40);
        due("undo of clear()", x.undo(), 4);
        due("the marks", x.count(8), 6);
        due("the row", row(x), 10);
        due("undo of mark()", x.undo(), 3);
        due("the marks", x.count(8), 3);
        due("the row, without what the question did", x.ofMonth(0, 9), 0);
        due("the pad is as it was", x.count(11), 2);
        due("undo of mark()", x.undo(), 2);
        due("the form", x.ofMonth(0, 4), EMPTY);
        dueCounts("counts", x, 0, 0, 2);
        due("undo of pass()", x.undo(), 1);
        due("today", x.count(0), 0);
        due("folded as never", x.count(7), 0);
        due("young again", x.ofMonth(0, 4), PLAIN);
        due("undo of set()", x.undo(), 0);
        due("KEEP", x.count(9), 2);
        due("nothing more", x.undo(), NOT_POSSIBLE);
        due("the slot is as it was", x.restore(1), 60);
        due("marks", x.count(8), 3);
        due("undo of restore()", x.undo(), 0);
        due("today", x.count(0), 0);

        FoldedMonths y = new FoldedMonths();
        for (int i = 1; i <= 9; i++) {
            y.pass(i);
            due("the history", y.count(12), Math.min(i, 6));
        }
        y.pass(0);
        due("an error records nothing", y.count(12), 6);
        for (int i = 5; i >= 0; i--) {
            due("undo", y.undo(), i);
            due("today then", y.count(0), (3 + i) * (4 + i) / 2);
        }
        due("1 + 2 + 3", y.count(0), 6);
        due("the oldest ones were dropped", y.undo(), NOT_POSSIBLE);
        y.pass(1);
        due("recorded again", y.undo(), 0);
        due("today", y.count(0), 6);

        FoldedMonths z = fourOldMonths(0);
        z.mark(0, 0, 0);
        z.mark(0, 31, 31);
        z.mark(0, 1, 1);
        due("folded anew", z.ofMonth(1, 6), NONE);
        z.undo();
        due("it names the month 0 again", z.ofMonth(1, 6), 0);
    }

    // Promise 25
    private static void save() {
        FoldedMonths x = new FoldedMonths();
        due("save(-1)", x.save(-1), BAD_VALUE);
        due("save(2)", x.save(2), BAD_VALUE);
        x.pass(7);
        due("save(0)", x.save(0), 7);
        x.pass(1);
        due("save(1)", x.save(1), 8);
        due("no change", x.count(12), 2);
        x.pass(1);
        due("the slot 0", x.restore(0), 7);
        due("the slot 1", x.restore(1), 8);
        x.mark(4, 8, 8);
        due("save(0), over the other one", x.save(0), 8);
        x.clear(4, 8, 8);
        x.restore(0);
        due("the mark is saved", x.isMarked(4, 8), 1);
        x.undo();
        due("what was saved is not the diary", x.isMarked(4, 8), 0);
    }

    // Promise 26
    private static void restore() {
        FoldedMonths x = fourOldMonths(1);
        due("restore(-1)", x.restore(-1), BAD_VALUE);
        due("restore(2)", x.restore(2), BAD_VALUE);
        due("restore(0), nothing saved", x.restore(0), NOT_POSSIBLE);
        due("no change", x.count(12), 3);
        x.mark(1, 0, 8);
        x.mark(1, 31, 39);
        x.save(1);
        due("restore(0), the other slot", x.restore(0), NOT_POSSIBLE);
        x.set(FoldedMonths.OPEN, 5);
        x.clear(1, 0, 119);
        x.pass(300);
        put(x, "p3");
        due("restore(1)", x.restore(1), 120);
        due("today", x.count(0), 120);
        due("OPEN", x.count(10), 1);
        due("marks", x.count(8), 18);
        due("row", row(x), 1);
        due("form", x.ofMonth(0, 4), RUNS);
        dueCounts("counts", x, 2, 2, 5);
        due("the pad stays", x.count(11), 2);
        due("a change", x.count(12), 6);
        due("undo", x.undo(), 5);
        due("today again", x.count(0), 420);
        due("the slot keeps it", x.restore(1), 120);
        due("and again", x.restore(1), 120);
        x.save(0);
        due("a slot of what was restored", x.restore(0), 120);
    }
}
