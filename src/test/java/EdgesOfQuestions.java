/** The edges of the promises 6 to 11. */
final class EdgesOfQuestions {
    private static final int NO_SUCH = -1, BAD_VALUE = -2, NONE = -6, OPEN = 1;
    private static final int LEAST = Integer.MIN_VALUE, MOST = Integer.MAX_VALUE;
    private static final int[] NO_SUBJECTS = {LEAST, -16, -1, 16, 32, 1 << 28, MOST};
    private static final int[] NO_DAYS = {LEAST, -365, -1, 3650, 1 << 30, MOST};
    private static final int[][] BACKWARDS = {{1, 0}, {31, 30}, {130, 0}, {3649, 3648}, {3649, 0}};
    private static final Story BUSY = Diaries::busy;

    private final Edges e;

    private EdgesOfQuestions(Edges e) {
        this.e = e;
    }

    static void test(Edges e) {
        EdgesOfQuestions edges = new EdgesOfQuestions(e);
        edges.marks();
        edges.marksErrors();
        edges.isMarked();
        edges.both();
        edges.bothErrors();
        edges.crowded();
        edges.crowdedErrors();
        edges.longest();
        edges.longestMonths();
        edges.longestErrors();
        edges.nextMark();
        edges.nextMarkErrors();
    }

    /** The months 0 to 3 are folded, 2 words each: the subject 0 is marked from 2 to 30, 33 to 58, 62 to 89 and 92 to 119. */
    private static FoldedMonths fourFolded(int open) {
        FoldedMonths x = Diaries.fourOld(0);
        x.mark(0, 2, 30);
        x.mark(0, 33, 58);
        x.mark(0, 62, 89);
        x.mark(0, 92, 119);
        x.set(OPEN, open);
        return x;
    }

    private void looks(String call, Call question, int due, int... months) {
        FoldedMonths x = fourFolded(6);
        int work = x.count(5);
        e.due(call, question.of(x), due);
        e.row(call, x, months);
        e.due(call + ": the work", x.count(5) - work, 2 * months.length);
        FoldedMonths y = fourFolded(0);
        work = y.count(5);
        e.due(call + " with OPEN as 0", question.of(y), due);
        e.due(call + " with OPEN as 0: the work", y.count(5) - work, 4 * months.length);
    }

    private void marks() {
        e.chapter("Promise 6: marks");
        e.sentence("int marks(int subject, int from, int to): Counts the marks of a subject.");
        FoldedMonths x = Diaries.diary(2, 2, 60);
        e.due("no mark", x.marks(0, 0, 3649), 0);
        x.mark(0, 10, 20);
        e.due("all", x.marks(0, 0, 3649), 11);
        e.due("another subject", x.marks(1, 0, 3649), 0);
        e.sentence("Months that lie wholly between both days are not looked at, as their counts are kept;");
        looks("marks(0, 0, 119), four whole months", y -> y.marks(0, 0, 119), 29 + 26 + 28 + 28);
        looks("marks(0, 0, 3649), all months", y -> y.marks(0, 0, 3649), 29 + 26 + 28 + 28);
        looks("marks(0, 0, 30), one whole month", y -> y.marks(0, 0, 30), 29);
        looks("marks(0, 31, 58), one whole month", y -> y.marks(0, 31, 58), 26);
        looks("marks(0, 31, 89), two whole months", y -> y.marks(0, 31, 89), 26 + 28);
        e.sentence("the first and the last month are looked at, if some of their days are not meant.");
        looks("marks(0, 1, 30), the first day is not meant", y -> y.marks(0, 1, 30), 29, 0);
        looks("marks(0, 0, 29), the last day is not meant", y -> y.marks(0, 0, 29), 28, 0);
        looks("marks(0, 15, 15), one day is meant", y -> y.marks(0, 15, 15), 1, 0);
        looks("marks(0, 1, 58), the first month", y -> y.marks(0, 1, 58), 29 + 26, 0);
        looks("marks(0, 0, 57), the last month", y -> y.marks(0, 0, 57), 29 + 25, 1);
        looks("marks(0, 30, 31), both months", y -> y.marks(0, 30, 31), 1, 0, 1);
        looks("marks(0, 30, 90), both months, not those between them", y -> y.marks(0, 30, 90), 1 + 26 + 28, 0, 3);
        looks("marks(0, 32, 3649), the first month", y -> y.marks(0, 32, 3649), 26 + 28 + 28, 1);
        looks("marks(0, 0, 120), the last month is young", y -> y.marks(0, 0, 120), 29 + 26 + 28 + 28);
        looks("marks(9, 1, 29), a subject without marks", y -> y.marks(9, 1, 29), 0, 0);
        e.sentence("Returns how many of the days from one to another one (both with it);");
        FoldedMonths z = Diaries.diary(2, 2, 60);
        z.mark(0, 30, 31);
        e.due("the day ahead of them", z.marks(0, 29, 29), 0);
        e.due("the first one", z.marks(0, 30, 30), 1);
        e.due("up to the first one", z.marks(0, 0, 30), 1);
        e.due("the last one", z.marks(0, 31, 31), 1);
        e.due("from the last one on", z.marks(0, 31, 60), 1);
        e.due("both", z.marks(0, 30, 31), 2);
        e.due("the day behind them", z.marks(0, 32, 32), 0);
        FoldedMonths w = Diaries.diary(2, 2, 3649);
        w.mark(15, 0, 3649);
        e.due("all days", w.marks(15, 0, 3649), 3650);
        e.due("all but the first and the last", w.marks(15, 1, 3648), 3648);
        e.due("the last day", w.marks(15, 3649, 3649), 1);
    }

    private void marksErrors() {
        e.sentence("NO_SUCH if there is no such subject, or one of the days is none;");
        for (int subject : NO_SUBJECTS) {
            e.refused("marks(" + subject + ", 1, 40)", BUSY, x -> x.marks(subject, 1, 40), NO_SUCH);
        }
        for (int day : NO_DAYS) {
            e.refused("marks(0, " + day + ", 40)", BUSY, x -> x.marks(0, day, 40), NO_SUCH);
            e.refused("marks(0, 1, " + day + ")", BUSY, x -> x.marks(0, 1, day), NO_SUCH);
        }
        e.sentence("BAD_VALUE if the last day is ahead of the first one.");
        for (int[] days : BACKWARDS) {
            e.refused("marks(0, " + days[0] + ", " + days[1] + ")", BUSY, x -> x.marks(0, days[0], days[1]), BAD_VALUE);
        }
        e.due("the last day is the first one", State.told(BUSY).marks(0, 3, 3), 1);
    }

    private void isMarked() {
        e.chapter("Promise 7: isMarked");
        e.sentence("int isMarked(int subject, int day): Tells whether a subject is marked on a day; its month is looked at.");
        looks("isMarked(0, 0)", x -> x.isMarked(0, 0), 0, 0);
        looks("isMarked(0, 30)", x -> x.isMarked(0, 30), 1, 0);
        looks("isMarked(0, 31)", x -> x.isMarked(0, 31), 0, 1);
        looks("isMarked(9, 31), no mark of the subject", x -> x.isMarked(9, 31), 0, 1);
        looks("isMarked(0, 119)", x -> x.isMarked(0, 119), 1, 3);
        looks("isMarked(0, 120), a young month", x -> x.isMarked(0, 120), 0);
        looks("isMarked(0, 3649)", x -> x.isMarked(0, 3649), 0);
        e.sentence("Returns 1 or 0;");
        FoldedMonths y = Diaries.diary(2, 2, 60);
        y.mark(3, 30, 31);
        int[] due = {0, 1, 1, 0};
        for (int day = 29; day <= 32; day++) {
            e.due("isMarked(3, " + day + ")", y.isMarked(3, day), due[day - 29]);
            e.due("isMarked(2, " + day + ")", y.isMarked(2, day), 0);
            e.due("isMarked(4, " + day + ")", y.isMarked(4, day), 0);
        }
        e.sentence("NO_SUCH if there is no such subject or day.");
        for (int subject : NO_SUBJECTS) {
            e.refused("isMarked(" + subject + ", 5)", BUSY, x -> x.isMarked(subject, 5), NO_SUCH);
        }
        for (int day : NO_DAYS) {
            e.refused("isMarked(0, " + day + ")", BUSY, x -> x.isMarked(0, day), NO_SUCH);
        }
        e.due("isMarked(15, 3649)", State.told(BUSY).isMarked(15, 3649), 0);
    }

    private void both() {
        e.chapter("Promise 8: both");
        e.sentence("int both(int subject, int other, int from, int to): Counts the days on which two subjects are marked both; all months "
            + "with a day that is meant are looked at, in ascending order.");
        looks("both(0, 0, 0, 0), the first day", x -> x.both(0, 0, 0, 0), 0, 0);
        looks("both(0, 0, 30, 30), the last day of a month", x -> x.both(0, 0, 30, 30), 1, 0);
        looks("both(0, 0, 30, 31), two months", x -> x.both(0, 0, 30, 31), 1, 0, 1);
        looks("both(0, 0, 31, 58), a whole month", x -> x.both(0, 0, 31, 58), 26, 1);
        looks("both(0, 0, 58, 90), also the one between them", x -> x.both(0, 0, 58, 90), 1 + 28, 1, 2, 3);
        looks("both(0, 9, 0, 3649), one has no mark", x -> x.both(0, 9, 0, 3649), 0, 0, 1, 2, 3);
        looks("both(8, 9, 0, 3649), none has a mark", x -> x.both(8, 9, 0, 3649), 0, 0, 1, 2, 3);
        looks("both(0, 0, 120, 3649), only young months", x -> x.both(0, 0, 120, 3649), 0);
        e.sentence("Returns how many of the days from one to another one (both with it);");
        FoldedMonths x = Diaries.diary(2, 2, 60);
        x.mark(0, 25, 31);
        x.mark(15, 29, 40);
        e.due("all", x.both(0, 15, 0, 3649), 3);
        e.due("the other way round", x.both(15, 0, 0, 3649), 3);
        e.due("the day ahead of them", x.both(0, 15, 28, 28), 0);
        e.due("the first of them", x.both(0, 15, 29, 29), 1);
        e.due("the last of them", x.both(0, 15, 31, 31), 1);
        e.due("the day behind them", x.both(0, 15, 32, 32), 0);
        e.due("without the first and the last", x.both(0, 15, 30, 30), 1);
        e.due("a subject and itself", x.both(0, 0, 0, 60), 7);
        e.due("a subject without a mark", x.both(0, 1, 0, 60), 0);
    }

    private void bothErrors() {
        e.sentence("errors as for marks().");
        for (int subject : NO_SUBJECTS) {
            e.refused("both(" + subject + ", 0, 1, 40)", BUSY, x -> x.both(subject, 0, 1, 40), NO_SUCH);
            e.refused("both(0, " + subject + ", 1, 40)", BUSY, x -> x.both(0, subject, 1, 40), NO_SUCH);
        }
        for (int day : NO_DAYS) {
            e.refused("both(0, 1, " + day + ", 40)", BUSY, x -> x.both(0, 1, day, 40), NO_SUCH);
            e.refused("both(0, 1, 1, " + day + ")", BUSY, x -> x.both(0, 1, 1, day), NO_SUCH);
        }
        for (int[] days : BACKWARDS) {
            e.refused("both(0, 1, " + days[0] + ", " + days[1] + ")", BUSY, x -> x.both(0, 1, days[0], days[1]), BAD_VALUE);
        }
        e.due("the last day is the first one", State.told(BUSY).both(0, 1, 3, 3), 1);
    }

    private void crowded() {
        e.chapter("Promise 9: crowded");
        e.sentence("int crowded(int least, int from, int to): Counts the days on which some number of subjects is marked, or more; all "
            + "months with a day that is meant are looked at, in ascending order.");
        looks("crowded(1, 0, 0), the first day", x -> x.crowded(1, 0, 0), 0, 0);
        looks("crowded(1, 30, 31), two months", x -> x.crowded(1, 30, 31), 1, 0, 1);
        looks("crowded(1, 31, 58), a whole month", x -> x.crowded(1, 31, 58), 26, 1);
        looks("crowded(1, 58, 90), also the one between them", x -> x.crowded(1, 58, 90), 1 + 28, 1, 2, 3);
        looks("crowded(16, 0, 3649), more than there are", x -> x.crowded(16, 0, 3649), 0, 0, 1, 2, 3);
        looks("crowded(1, 120, 3649), only young months", x -> x.crowded(1, 120, 3649), 0);
        FoldedMonths x = Diaries.diary(2, 2, 60);
        for (int s = 0; s < 16; s++) {
            x.mark(s, 29, 29 + s / 5);
        }
        int[] day29 = {1, 5, 10, 11, 15, 16};
        for (int least : day29) {
            e.due("16 subjects, " + least + " or more", x.crowded(least, 29, 29), 1);
            e.due("11 subjects, " + least + " or more", x.crowded(least, 30, 30), least <= 11 ? 1 : 0);
            e.due("6 subjects, " + least + " or more", x.crowded(least, 31, 31), least <= 6 ? 1 : 0);
            e.due("one subject, " + least + " or more", x.crowded(least, 32, 32), least <= 1 ? 1 : 0);
            e.due("no subject, " + least + " or more", x.crowded(least, 33, 33), 0);
        }
        e.due("6 or more", x.crowded(6, 0, 60), 3);
        e.due("7 or more", x.crowded(7, 0, 60), 2);
        e.due("12 or more", x.crowded(12, 0, 60), 1);
        e.sentence("Returns how many of the days from one to another one (both with it);");
        e.due("from the first to the last", x.crowded(1, 29, 32), 4);
        e.due("without the first", x.crowded(1, 30, 32), 3);
        e.due("without the last", x.crowded(1, 29, 31), 3);
        e.due("ahead of them", x.crowded(1, 0, 28), 0);
        e.due("behind them", x.crowded(1, 33, 3649), 0);
    }

    private void crowdedErrors() {
        e.sentence("least: 1 to 16");
        FoldedMonths x = State.told(BUSY);
        e.due("crowded(0, 0, 0)", x.crowded(0, 0, 0), BAD_VALUE);
        e.due("crowded(1, 3, 3)", x.crowded(1, 3, 3), 1);
        e.due("crowded(16, 3, 3)", x.crowded(16, 3, 3), 0);
        e.due("crowded(17, 3, 3)", x.crowded(17, 3, 3), BAD_VALUE);
        e.sentence("NO_SUCH if one of the days is none;");
        for (int day : NO_DAYS) {
            e.refused("crowded(1, " + day + ", 40)", BUSY, y -> y.crowded(1, day, 40), NO_SUCH);
            e.refused("crowded(1, 1, " + day + ")", BUSY, y -> y.crowded(1, 1, day), NO_SUCH);
            e.refused("crowded(0, 1, " + day + ")", BUSY, y -> y.crowded(0, 1, day), NO_SUCH);
        }
        e.sentence("BAD_VALUE if least is out of range, or the last day is ahead of the first one.");
        for (int least : new int[] {LEAST, -1, 0, 17, MOST}) {
            e.refused("crowded(" + least + ", 0, 99)", BUSY, y -> y.crowded(least, 0, 99), BAD_VALUE);
        }
        for (int[] days : BACKWARDS) {
            e.refused("crowded(1, " + days[0] + ", " + days[1] + ")", BUSY, y -> y.crowded(1, days[0], days[1]), BAD_VALUE);
        }
        e.due("the last day is the first one", State.told(BUSY).crowded(2, 3, 3), 1);
    }

    private void longestIs(String when, FoldedMonths x, int from, int to, int days, int first) {
        e.due(when + ": how many days", x.longest(0, from, to, 0), days);
        e.due(when + ": the first day", x.longest(0, from, to, 1), first);
    }

    private void longest() {
        e.chapter("Promise 10: longest");
        e.sentence("int longest(int subject, int from, int to, int what): Finds the longest row of days one after the other on which a "
            + "subject is marked, also from month to month, among the days that are meant;");
        FoldedMonths x = Diaries.diary(12, 2, 400);
        x.mark(0, 0, 0);
        x.mark(0, 5, 6);
        x.mark(0, 29, 33);
        x.mark(0, 362, 367);
        x.mark(1, 34, 36);
        longestIs("from year to year", x, 0, 400, 6, 362);
        longestIs("up to the last day of a year", x, 0, 364, 5, 29);
        longestIs("from month to month", x, 0, 200, 5, 29);
        longestIs("up to the last day of a month", x, 0, 30, 2, 5);
        longestIs("from the first day of a month on", x, 31, 200, 3, 31);
        longestIs("one day, marked", x, 30, 30, 1, 30);
        longestIs("one day, not marked", x, 28, 28, 0, NONE);
        longestIs("the first day", x, 0, 0, 1, 0);
        longestIs("cut on both sides", x, 30, 32, 3, 30);
        FoldedMonths y = Diaries.diary(2, 2, 3649);
        y.mark(0, 0, 3649);
        longestIs("all days", y, 0, 3649, 3650, 0);
        longestIs("the last day", y, 3649, 3649, 1, 3649);
        y.clear(0, 1, 1);
        longestIs("all days but for the second one", y, 0, 3649, 3648, 2);
        e.sentence("what: 0 how many days, 1 the first day of it, of several the first one (NONE if the subject is not marked)");
        FoldedMonths z = Diaries.diary(12, 2, 200);
        longestIs("never marked", z, 0, 200, 0, NONE);
        z.mark(0, 10, 12);
        z.mark(0, 20, 22);
        z.mark(0, 58, 60);
        longestIs("of three the first one", z, 0, 200, 3, 10);
        longestIs("of two the first one", z, 11, 200, 3, 20);
        z.mark(0, 23, 23);
        longestIs("a longer one behind it", z, 0, 200, 4, 20);
        longestIs("not marked on the days that are meant", z, 13, 19, 0, NONE);
        longestIs("nor on days to come", z, 201, 3649, 0, NONE);
        e.sentence("Returns the number;");
        longestIs("the first day of the diary", x, 0, 4, 1, 0);
    }

    private void longestMonths() {
        e.sentence("all months with such a day are looked at, in ascending order, but those in which the subject has no mark.");
        looks("longest(0, 0, 0, 0), one day", x -> x.longest(0, 0, 0, 0), 0, 0);
        looks("longest(0, 30, 31, 0), two months", x -> x.longest(0, 30, 31, 0), 1, 0, 1);
        looks("longest(0, 31, 58, 1), a whole month", x -> x.longest(0, 31, 58, 1), 33, 1);
        looks("longest(0, 58, 90, 0), also the one between them", x -> x.longest(0, 58, 90, 0), 28, 1, 2, 3);
        looks("longest(0, 0, 3649, 0)", x -> x.longest(0, 0, 3649, 0), 29, 0, 1, 2, 3);
        looks("longest(9, 0, 3649, 1), a subject without marks", x -> x.longest(9, 0, 3649, 1), NONE);
        looks("longest(0, 120, 3649, 0), only young months", x -> x.longest(0, 120, 3649, 0), 0);
        looks("longest(0, 59, 60, 1), days without a mark of a month with some", x -> x.longest(0, 59, 60, 1), NONE, 2);
        FoldedMonths y = Diaries.fourOld(6);
        y.mark(0, 0, 0);
        y.mark(1, 31, 31);
        y.mark(0, 59, 59);
        y.longest(0, 0, 119, 0);
        e.row("the month 1 has no mark of the subject", y, 1, 0, 2);
    }

    private void longestErrors() {
        e.sentence("NO_SUCH if there is no such subject, or one of the days is none;");
        for (int subject : NO_SUBJECTS) {
            e.refused("longest(" + subject + ", 1, 40, 0)", BUSY, x -> x.longest(subject, 1, 40, 0), NO_SUCH);
        }
        for (int day : NO_DAYS) {
            e.refused("longest(0, " + day + ", 40, 0)", BUSY, x -> x.longest(0, day, 40, 0), NO_SUCH);
            e.refused("longest(0, 1, " + day + ", 1)", BUSY, x -> x.longest(0, 1, day, 1), NO_SUCH);
        }
        e.sentence("BAD_VALUE if what is neither 0 nor 1, or the last day is ahead of the first one.");
        for (int what : new int[] {LEAST, -1, 2, MOST}) {
            e.refused("longest(0, 1, 40, " + what + ")", BUSY, x -> x.longest(0, 1, 40, what), BAD_VALUE);
        }
        for (int[] days : BACKWARDS) {
            e.refused("longest(0, " + days[0] + ", " + days[1] + ", 0)", BUSY, x -> x.longest(0, days[0], days[1], 0), BAD_VALUE);
        }
        e.due("the last day is the first one", State.told(BUSY).longest(0, 3, 3, 0), 1);
    }

    private void nextMark() {
        e.chapter("Promise 11: nextMark");
        e.sentence("int nextMark(int subject, int day): Finds the first day, from one on, on which a subject is marked;");
        FoldedMonths x = Diaries.diary(12, 2, 3649);
        x.mark(0, 0, 0);
        x.mark(0, 30, 31);
        x.mark(0, 3649, 3649);
        x.mark(1, 0, 3649);
        e.due("from the day itself on", x.nextMark(0, 0), 0);
        e.due("from the day behind it on", x.nextMark(0, 1), 30);
        e.due("from the day ahead of it on", x.nextMark(0, 29), 30);
        e.due("from the last day of a month on", x.nextMark(0, 30), 30);
        e.due("from the first day of a month on", x.nextMark(0, 31), 31);
        e.due("from the day behind that on", x.nextMark(0, 32), 3649);
        e.due("from the day ahead of the last one on", x.nextMark(0, 3648), 3649);
        e.due("from the last day on", x.nextMark(0, 3649), 3649);
        e.sentence("months are looked at in ascending order, but those in which the subject has no mark, up to the one where the day is.");
        looks("nextMark(0, 0), the month of the day", y -> y.nextMark(0, 0), 2, 0);
        looks("nextMark(0, 30)", y -> y.nextMark(0, 30), 30, 0);
        looks("nextMark(0, 31)", y -> y.nextMark(0, 31), 33, 1);
        looks("nextMark(0, 119)", y -> y.nextMark(0, 119), 119, 3);
        looks("nextMark(0, 120), behind them", y -> y.nextMark(0, 120), NONE);
        looks("nextMark(9, 0), a subject without marks", y -> y.nextMark(9, 0), NONE);
        FoldedMonths w = Diaries.fourOld(6);
        w.mark(0, 31, 31);
        w.mark(0, 0, 0);
        e.due("the first day of the next month", w.nextMark(0, 1), 31);
        e.row("the next month is looked at, too", w, 0, 1);
        FoldedMonths z = Diaries.fourOld(6);
        z.mark(0, 90, 90);
        z.mark(1, 31, 31);
        z.mark(0, 0, 0);
        e.row("three months", z, 3, 1, 0);
        e.due("from the month 0 to the month 3", z.nextMark(0, 1), 90);
        e.row("but for 1, where the subject has none", z, 1, 0, 3);
        e.due("from the month 0, which has none any more, to none", z.nextMark(1, 32), NONE);
        e.row("the month with a mark ahead of the day", z, 0, 3, 1);
        z.pass(1);
        z.mark(0, 121, 121);
        e.due("to a young month", z.nextMark(0, 91), 121);
        e.row("the month 3 is looked at on the way", z, 0, 1, 3);
        e.sentence("Returns the day;");
        e.due("the day 0", z.nextMark(0, 0), 0);
    }

    private void nextMarkErrors() {
        e.sentence("NO_SUCH if there is no such subject or day;");
        for (int subject : NO_SUBJECTS) {
            e.refused("nextMark(" + subject + ", 5)", BUSY, x -> x.nextMark(subject, 5), NO_SUCH);
        }
        for (int day : NO_DAYS) {
            e.refused("nextMark(0, " + day + ")", BUSY, x -> x.nextMark(0, day), NO_SUCH);
        }
        e.sentence("NONE if there is none.");
        FoldedMonths x = Diaries.diary(2, 2, 60);
        e.due("none of any subject", x.nextMark(0, 0), NONE);
        e.due("from the last day on", x.nextMark(15, 3649), NONE);
        x.mark(3, 30, 30);
        e.due("the last one is behind the day", x.nextMark(3, 30), 30);
        e.due("the last one is ahead of the day", x.nextMark(3, 31), NONE);
        e.due("another subject", x.nextMark(2, 30), NONE);
        x.clear(3, 30, 30);
        e.due("none any more", x.nextMark(3, 0), NONE);
    }
}
