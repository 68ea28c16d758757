/** The edges of the promises 12 to 19. */
final class EdgesOfNumbers {
    private static final int NO_SUCH = -1, BAD_VALUE = -2, NONE = -6, OPEN = 1;
    private static final int EMPTY = 0, SAME = 1, RUNS = 2, PLACES = 3, PLAIN = 4;
    private static final int LEAST = Integer.MIN_VALUE, MOST = Integer.MAX_VALUE;
    private static final int[] NO_SUBJECTS = {LEAST, -16, -1, 16, 32, 1 << 28, MOST};
    private static final int[] NO_DAYS = {LEAST, -365, -1, 3650, 1 << 30, MOST};
    private static final int[] NO_MONTHS = {LEAST, -12, -1, 120, 121, 1 << 28, 1 << 30, MOST};
    private static final int[][] BACKWARDS = {{1, 0}, {31, 30}, {130, 0}, {3649, 3648}, {3649, 0}};
    private static final Story BUSY = Diaries::busy;

    private final Edges e;

    private EdgesOfNumbers(Edges e) {
        this.e = e;
    }

    static void test(Edges e) {
        EdgesOfNumbers edges = new EdgesOfNumbers(e);
        edges.ofMonth();
        edges.ofMonthErrors();
        edges.inMonth();
        edges.dayOf();
        edges.dateOf();
        edges.count();
        edges.countOfNothing();
        edges.sizeAs();
        edges.sizeAsErrors();
        edges.workOf();
        edges.bestOpen();
        edges.bestOpenFoldsFirst();
        edges.notPromised();
    }

    private void all(String month, FoldedMonths x, int number, int... due) {
        for (int what = 0; what < due.length; what++) {
            e.due(month + ": ofMonth(" + number + ", " + what + ")", x.ofMonth(number, what), due[what]);
        }
    }

    private void ofMonth() {
        e.chapter("Promise 12: ofMonth");
        e.noEdge("int ofMonth(int month, int what): Returns something about a month.");
        e.sentence("what: 0 its first day, 1 its days, 2 whether it is OLD (1 or 0), 3 whether it is unfolded (1 or 0), 4 its form "
            + "(PLAIN if it is not folded), 5 its size, 6 the month that it names (NONE if it is not SAME), 7 all marks in it, 8 "
            + "subjects that have a mark in it, as a set, 9 its place in the row of unfolded months (NONE)");
        FoldedMonths x = Diaries.fourOld(2);
        for (int s = 0; s < 16; s++) {
            x.mark(s, 0, 30);
        }
        x.mark(0, 31, 31);
        x.mark(15, 58, 58);
        x.mark(0, 59, 59);
        x.mark(15, 86, 86);
        x.mark(15, 120, 120);
        all("folded, with all marks", x, 0, 0, 31, 1, 0, PLAIN, 16, NONE, 16 * 31, 65535, NONE);
        all("unfolded, the first in the row", x, 1, 31, 28, 1, 1, PLAIN, 16, NONE, 2, 32769, 0);
        all("unfolded, the last in the row", x, 2, 59, 31, 1, 1, PLAIN, 16, NONE, 2, 32769, 1);
        all("EMPTY", x, 3, 90, 30, 1, 0, EMPTY, 0, NONE, 0, 0, NONE);
        all("young, with a mark", x, 4, 120, 31, 0, 0, PLAIN, 16, NONE, 1, 32768, NONE);
        all("the last one", x, 119, 3619, 31, 0, 0, PLAIN, 16, NONE, 0, 0, NONE);
        x.set(OPEN, 0);
        all("folded", x, 1, 31, 28, 1, 0, PLACES, 2, NONE, 2, 32769, NONE);
        all("SAME", x, 2, 59, 31, 1, 0, SAME, 1, 1, 2, 32769, NONE);
        e.sentence("Returns the number;");
        e.due("the last day of all: its month's first day and days", x.ofMonth(119, 0) + x.ofMonth(119, 1), 3650);
    }

    private void ofMonthErrors() {
        e.sentence("NO_SUCH if there is no such month;");
        for (int month : NO_MONTHS) {
            for (int what : new int[] {-1, 0, 9, 10}) {
                e.refused("ofMonth(" + month + ", " + what + ")", BUSY, x -> x.ofMonth(month, what), NO_SUCH);
            }
        }
        e.sentence("BAD_VALUE if what is out of range.");
        for (int what : new int[] {LEAST, -1, 10, 1 << 30, MOST}) {
            e.refused("ofMonth(0, " + what + ")", BUSY, x -> x.ofMonth(0, what), BAD_VALUE);
            e.refused("ofMonth(119, " + what + ")", BUSY, x -> x.ofMonth(119, what), BAD_VALUE);
        }
    }

    private void inMonth() {
        e.chapter("Promise 13: inMonth");
        e.noEdge("int inMonth(int subject, int month): Returns how many marks a subject has in a month.");
        e.sentence("Returns how many;");
        FoldedMonths x = Diaries.diary(2, 2, 3649);
        x.mark(0, 30, 58);
        x.mark(15, 3619, 3649);
        e.due("one mark, on the last day", x.inMonth(0, 0), 1);
        e.due("all days", x.inMonth(0, 1), 28);
        e.due("none", x.inMonth(0, 2), 0);
        e.due("the subject above", x.inMonth(1, 0), 0);
        e.due("the last subject in the first month", x.inMonth(15, 0), 0);
        e.due("the last subject in the last month", x.inMonth(15, 119), 31);
        e.due("the last subject in the month ahead of it", x.inMonth(15, 118), 0);
        e.sentence("NO_SUCH if there is no such subject or month.");
        for (int subject : NO_SUBJECTS) {
            e.refused("inMonth(" + subject + ", 1)", BUSY, y -> y.inMonth(subject, 1), NO_SUCH);
        }
        for (int month : NO_MONTHS) {
            e.refused("inMonth(0, " + month + ")", BUSY, y -> y.inMonth(0, month), NO_SUCH);
            e.refused("inMonth(15, " + month + ")", BUSY, y -> y.inMonth(15, month), NO_SUCH);
        }
    }

    private void dayOf() {
        e.chapter("Promise 14: dayOf");
        e.noEdge("int dayOf(int year, int month, int day): Returns the number of a day.");
        FoldedMonths x = new FoldedMonths();
        e.sentence("year: 0 to 9");
        e.due("dayOf(-1, 12, 31)", x.dayOf(-1, 12, 31), NO_SUCH);
        e.due("dayOf(0, 1, 1)", x.dayOf(0, 1, 1), 0);
        e.due("dayOf(9, 12, 31)", x.dayOf(9, 12, 31), 3649);
        e.due("dayOf(10, 1, 1)", x.dayOf(10, 1, 1), NO_SUCH);
        e.sentence("month: 1 to 12");
        e.due("dayOf(1, 0, 31)", x.dayOf(1, 0, 31), NO_SUCH);
        e.due("dayOf(1, 1, 1)", x.dayOf(1, 1, 1), 365);
        e.due("dayOf(0, 12, 1)", x.dayOf(0, 12, 1), 334);
        e.due("dayOf(0, 13, 1)", x.dayOf(0, 13, 1), NO_SUCH);
        e.sentence("day: 1 and on");
        int[] lengths = {31, 28, 31, 30, 31, 30, 31, 31, 30, 31, 30, 31};
        int days = 0;
        for (int month = 1; month <= 12; month++) {
            int length = lengths[month - 1];
            e.due("the day 0 of the month " + month, x.dayOf(0, month, 0), NO_SUCH);
            e.due("the first day of the month " + month, x.dayOf(0, month, 1), days);
            e.due("the last day of the month " + month, x.dayOf(0, month, length), days + length - 1);
            e.due("a day more in the month " + month, x.dayOf(0, month, length + 1), NO_SUCH);
            e.due("the same in the last year", x.dayOf(9, month, length + 1), NO_SUCH);
            days += length;
        }
        e.sentence("Returns the day;");
        for (int day = 0; day < 3650; day++) {
            FoldedMonths y = new FoldedMonths();
            e.due("the day " + day, y.dayOf(y.dateOf(day, 0), y.dateOf(day, 1), y.dateOf(day, 2)), day);
        }
        e.sentence("NO_SUCH if there is no such year, month or day.");
        int[] nowhere = {LEAST, -1, 1 << 28, 1 << 30, MOST};
        for (int number : nowhere) {
            e.refused("the year " + number, BUSY, y -> y.dayOf(number, 1, 1), NO_SUCH);
            e.refused("the month " + number, BUSY, y -> y.dayOf(0, number, 1), NO_SUCH);
            e.refused("the day " + number, BUSY, y -> y.dayOf(0, 1, number), NO_SUCH);
            e.refused("the last day of the year " + number, BUSY, y -> y.dayOf(number, 12, 31), NO_SUCH);
            e.refused("all of them " + number, BUSY, y -> y.dayOf(number, number, number), NO_SUCH);
        }
        e.refused("the month behind the last one", BUSY, y -> y.dayOf(9, 13, 1), NO_SUCH);
        e.refused("the month ahead of the first one", BUSY, y -> y.dayOf(0, 0, 1), NO_SUCH);
        e.refused("the day behind the last one", BUSY, y -> y.dayOf(9, 12, 32), NO_SUCH);
        e.refused("the day ahead of the first one", BUSY, y -> y.dayOf(0, 1, 0), NO_SUCH);
    }

    private void dateOf() {
        e.chapter("Promise 15: dateOf");
        e.noEdge("int dateOf(int day, int what): Returns a part of the date of a day.");
        e.sentence("what: 0 the year, 1 the month of the year (1 to 12), 2 the day of the month (1 and on), 3 the month, numbered through");
        int[] days = {0, 30, 31, 58, 59, 333, 334, 364, 365, 395, 3284, 3285, 3618, 3619, 3649};
        int[][] due = {{0, 1, 1, 0}, {0, 1, 31, 0}, {0, 2, 1, 1}, {0, 2, 28, 1}, {0, 3, 1, 2}, {0, 11, 30, 10}, {0, 12, 1, 11},
            {0, 12, 31, 11}, {1, 1, 1, 12}, {1, 1, 31, 12}, {8, 12, 31, 107}, {9, 1, 1, 108}, {9, 11, 30, 118}, {9, 12, 1, 119},
            {9, 12, 31, 119}};
        FoldedMonths x = new FoldedMonths();
        for (int i = 0; i < days.length; i++) {
            for (int what = 0; what <= 3; what++) {
                e.due("dateOf(" + days[i] + ", " + what + ")", x.dateOf(days[i], what), due[i][what]);
            }
        }
        e.sentence("Returns the number;");
        e.due("a day to come", x.dateOf(3648, 2), 30);
        e.sentence("NO_SUCH if there is no such day;");
        for (int day : NO_DAYS) {
            for (int what : new int[] {-1, 0, 3, 4}) {
                e.refused("dateOf(" + day + ", " + what + ")", BUSY, y -> y.dateOf(day, what), NO_SUCH);
            }
        }
        e.sentence("BAD_VALUE if what is out of range.");
        for (int what : new int[] {LEAST, -1, 4, 1 << 30, MOST}) {
            e.refused("dateOf(0, " + what + ")", BUSY, y -> y.dateOf(0, what), BAD_VALUE);
            e.refused("dateOf(3649, " + what + ")", BUSY, y -> y.dateOf(3649, what), BAD_VALUE);
        }
    }

    private void counts(String when, FoldedMonths x, int... due) {
        for (int what = 0; what < due.length; what++) {
            e.due(when + ": count(" + what + ")", x.count(what), due[what]);
        }
    }

    private void count() {
        e.chapter("Promise 16: count");
        e.noEdge("int count(int what): Returns a number.");
        e.sentence("what: 0 today, 1 the month of today, numbered through, 2 OLD months, 3 unfolded months, 4 the sizes of all months up "
            + "to that of today together, 5 the work so far, 6 how often a month was unfolded so far, 7 how often a month was folded "
            + "so far (anew and again, too), 8 all marks, 9 KEEP, 10 OPEN, 11 the length of the pad, 12 how many changes can be undone");
        FoldedMonths x = new FoldedMonths();
        counts("at first", x, 0, 0, 0, 0, 16, 0, 0, 0, 0, 2, 2, 0, 0);
        x.set(FoldedMonths.KEEP, 1);
        x.pass(30);
        counts("the last day of the first month", x, 30, 0, 0, 0, 16, 0, 0, 0, 0, 1, 2, 0, 2);
        x.pass(1);
        counts("the first day of the second month", x, 31, 1, 1, 0, 0 + 16, 0, 0, 1, 0, 1, 2, 0, 3);
        x.mark(0, 0, 0);
        counts("an unfolded month", x, 31, 1, 1, 1, 16 + 16, 0, 1, 1, 1, 1, 2, 0, 4);
        x.set(OPEN, 0);
        counts("folded again", x, 31, 1, 1, 0, 2 + 16, 2, 1, 2, 1, 1, 0, 0, 5);
        x.mark(0, 31, 31);
        x.pass(28);
        counts("a month that is SAME", x, 59, 2, 2, 0, 2 + 1 + 16, 3, 1, 3, 2, 1, 0, 0, 6);
        x.mark(1, 0, 0);
        counts("folded anew (2), unfolded (2), again (2)", x, 59, 2, 2, 0, 2 + 2 + 16, 9, 2, 5, 3, 1, 0, 0, 6);
        Diaries.put(x, "p".repeat(80));
        e.due("a full pad", x.count(11), 80);
        FoldedMonths y = Diaries.diary(12, 6, 3649);
        counts("the last day", y, 3649, 119, 108, 0, 12 * 16, 0, 0, 108, 0, 12, 6, 0, 6);
        y.mark(15, 3649, 3649);
        e.due("a mark on the last day", y.count(8), 1);
        for (int s = 0; s < 16; s++) {
            y.mark(s, 0, 3649);
        }
        e.due("all marks that there can be", y.count(8), 16 * 3650);
    }

    private void countOfNothing() {
        e.sentence("Returns the number;");
        e.due("the month of the day 364", Diaries.diary(2, 2, 364).count(1), 11);
        e.due("the month of the day 365", Diaries.diary(2, 2, 365).count(1), 12);
        e.sentence("BAD_VALUE if what is out of range.");
        for (int what : new int[] {LEAST, -1, 13, 1 << 30, MOST}) {
            e.refused("count(" + what + ")", BUSY, y -> y.count(what), BAD_VALUE);
        }
    }

    private void sizeAs() {
        e.chapter("Promise 17: sizeAs");
        e.sentence("int sizeAs(int month, int form): Tells the size that a month would have if it was folded in a form now.");
        FoldedMonths x = Diaries.fourOld(2);
        x.mark(0, 0, 3);
        x.mark(0, 31, 31);
        x.mark(0, 120, 120);
        e.due("an unfolded month as RUNS", x.sizeAs(0, RUNS), 2);
        e.due("an unfolded month as PLACES", x.sizeAs(0, PLACES), 3);
        e.due("a young month as RUNS", x.sizeAs(4, RUNS), 2);
        e.due("a month to come as EMPTY", x.sizeAs(119, EMPTY), 0);
        e.due("a month to come as RUNS", x.sizeAs(119, RUNS), 1);
        x.set(OPEN, 0);
        e.due("a folded month as another form", x.sizeAs(0, PLACES), 3);
        e.due("a folded month as its form", x.sizeAs(0, RUNS), 2);
        e.sentence("form: EMPTY to PLAIN");
        e.due("sizeAs(0, -1)", x.sizeAs(0, -1), BAD_VALUE);
        e.due("sizeAs(3, EMPTY)", x.sizeAs(3, EMPTY), 0);
        e.due("sizeAs(3, PLAIN)", x.sizeAs(3, PLAIN), 16);
        e.due("sizeAs(3, 5)", x.sizeAs(3, 5), BAD_VALUE);
        e.sentence("Returns the size;");
        e.due("the last month as PLAIN", x.sizeAs(119, PLAIN), 16);
    }

    private void sizeAsErrors() {
        e.sentence("NO_SUCH if there is no such month;");
        for (int month : NO_MONTHS) {
            for (int form : new int[] {-1, EMPTY, SAME, PLAIN, 5}) {
                e.refused("sizeAs(" + month + ", " + form + ")", BUSY, x -> x.sizeAs(month, form), NO_SUCH);
            }
        }
        e.sentence("BAD_VALUE if form is out of range;");
        for (int form : new int[] {LEAST, -1, 5, 1 << 30, MOST}) {
            e.refused("sizeAs(0, " + form + ")", BUSY, x -> x.sizeAs(0, form), BAD_VALUE);
            e.refused("sizeAs(119, " + form + ")", BUSY, x -> x.sizeAs(119, form), BAD_VALUE);
        }
        e.sentence("NONE if this form is not possible (SAME: by the months that are folded now).");
        FoldedMonths x = Diaries.fourOld(2);
        e.due("no mark: EMPTY", x.sizeAs(0, EMPTY), 0);
        e.due("no mark, nothing is ahead of it: SAME", x.sizeAs(0, SAME), NONE);
        e.due("no mark, an EMPTY one is ahead of it: SAME", x.sizeAs(1, SAME), 1);
        x.mark(0, 0, 0);
        x.mark(0, 59, 59);
        x.mark(0, 120, 120);
        e.due("a mark: EMPTY", x.sizeAs(0, EMPTY), NONE);
        e.due("as the months 0 and 2, which are not folded: SAME", x.sizeAs(4, SAME), NONE);
        e.due("as the month 0, which is not folded: SAME", x.sizeAs(2, SAME), NONE);
        x.set(OPEN, 1);
        e.due("as the month 0, which is folded now: SAME", x.sizeAs(4, SAME), 1);
        e.due("unfolded, as the month 0: SAME", x.sizeAs(2, SAME), 1);
        x.set(OPEN, 0);
        e.due("the month 2 names 0", x.ofMonth(2, 6), 0);
        e.due("SAME as it is", x.sizeAs(2, SAME), 1);
        x.set(OPEN, 1);
        x.isMarked(0, 0);
        e.due("the month 2 goes on naming 0, which is unfolded now", x.ofMonth(2, 6), 0);
        e.due("but no folded month is as it is", x.sizeAs(2, SAME), NONE);
        e.due("nor a folded one that is not SAME", x.sizeAs(4, SAME), NONE);
        FoldedMonths y = Diaries.diary(2, 2, 40);
        y.mark(0, 0, 0);
        y.mark(0, 31, 31);
        e.due("the same as a young month", y.sizeAs(1, SAME), NONE);
    }

    private void work(String call, FoldedMonths x, int from, int to, int due) {
        e.due(call + ": workOf(" + from + ", " + to + ")", x.workOf(from, to), due);
        int work = x.count(5);
        x.both(0, 1, from, to);
        e.due(call + ": both() makes that work", x.count(5) - work, due);
    }

    private void workOf() {
        e.chapter("Promise 18: workOf");
        e.sentence("int workOf(int from, int to): Tells how much work both() would make for some days now.");
        work("nothing marked", Diaries.fourOld(2), 0, 3649, 0);
        work("no OLD month", new FoldedMonths(), 0, 3649, 0);
        for (int open = 0; open <= 6; open++) {
            FoldedMonths x = Diaries.fourOld(0);
            x.mark(0, 0, 1);
            x.mark(0, 31, 33);
            x.mark(0, 59, 59);
            x.set(OPEN, open);
            work("three of 2 words, OPEN is " + open, x, 30, 60, 2 * 3 + 2 * Math.max(0, 3 - open));
            e.due("unfolded then", x.count(3), Math.min(3, open));
            work("the last one again", x, 59, 59, open == 0 ? 4 : 0);
            work("all again", x, 0, 120, open == 0 ? 12 : open == 1 ? 3 * 4 : open == 2 ? 3 * 4 : 0);
        }
        e.sentence("Returns the work;");
        FoldedMonths y = Diaries.fourOld(1);
        y.mark(0, 0, 0);
        work("an unfolded month", y, 0, 30, 0);
        e.sentence("NO_SUCH if one of the days is none;");
        for (int day : NO_DAYS) {
            e.refused("workOf(" + day + ", 40)", BUSY, x -> x.workOf(day, 40), NO_SUCH);
            e.refused("workOf(1, " + day + ")", BUSY, x -> x.workOf(1, day), NO_SUCH);
        }
        e.sentence("BAD_VALUE if the last day is ahead of the first one.");
        for (int[] days : BACKWARDS) {
            e.refused("workOf(" + days[0] + ", " + days[1] + ")", BUSY, x -> x.workOf(days[0], days[1]), BAD_VALUE);
        }
        e.due("the last day is the first one", Diaries.fourOld(0).workOf(3, 3), 0);
    }

    /** So many months from 0 on are folded, each with marks of its own, and 2 words. */
    private static FoldedMonths folded(int months) {
        FoldedMonths x = Diaries.diary(1, 0, 365);
        for (int month = 0; month < months; month++) {
            int first = x.ofMonth(month, 0);
            x.mark(0, first, first + month);
        }
        return x;
    }

    /** From a month on: a folded one, an unfolded one without marks, and five folded ones, of 2 words each. */
    private static FoldedMonths sixAndAnEmptyOne(int start) {
        FoldedMonths x = Diaries.diary(1, 0, 365);
        for (int month = start; month < start + 7; month++) {
            int first = x.ofMonth(month, 0);
            x.mark(0, first, first + month);
        }
        x.set(OPEN, 1);
        int day = x.ofMonth(start + 1, 0);
        x.clear(0, day, day + 9);
        return x;
    }

    private void bestOpen() {
        e.chapter("Promise 19: bestOpen");
        e.sentence("int bestOpen(int from, int to): Finds the OPEN, 0 to 6, with which both() for some days, asked twice now, would make "
            + "the least work in all, of several the least one");
        e.due("no month to look at: the least one", folded(0).bestOpen(0, 3649), 0);
        e.due("only young months", folded(3).bestOpen(365, 3649), 0);
        for (int months = 1; months <= 6; months++) {
            FoldedMonths x = folded(months);
            int last = x.ofMonth(months, 0) - 1;
            e.due(months + " months, asked twice", x.bestOpen(0, last), months);
            int lastFirst = Math.max(30, x.ofMonth(months - 1, 0));
            e.due("from the last day of the first one to the first day of the last one", x.bestOpen(30, lastFirst), months);
            e.due("OPEN is as it was", x.count(10), 0);
        }
        FoldedMonths x = folded(7);
        e.due("seven months, more than can stand open: less is folded at the end", x.bestOpen(0, 211), 6);
        e.due("asked once, 5 and 6 would be as much work", sixAndAnEmptyOne(0).bestOpen(0, 364), 6);
        e.due("the same behind an EMPTY month", sixAndAnEmptyOne(1).bestOpen(0, 364), 6);
        FoldedMonths y = folded(12);
        e.due("twelve months", y.bestOpen(0, 364), 6);
        e.due("one day", y.bestOpen(180, 180), 1);
    }

    private void bestOpenFoldsFirst() {
        e.sentence("(months that are unfolded now beyond that OPEN are folded again first, which is work, too).");
        for (int open = 1; open <= 6; open++) {
            FoldedMonths x = folded(open);
            x.set(OPEN, open);
            x.both(0, 0, 0, 364);
            e.due("unfolded now", x.count(3), open);
            e.due("days of a young month: the " + open + " that are unfolded now stay", x.bestOpen(365, 365), open);
            e.due("the days of the first one", x.bestOpen(0, 0), open);
            x.set(OPEN, 6);
            e.due("no more than are unfolded now", x.bestOpen(365, 365), open);
        }
        FoldedMonths x = Diaries.fourOld(2);
        x.mark(0, 31, 31);
        x.clear(0, 31, 31);
        e.row("an unfolded month without a mark", x, 1);
        e.due("folding it as EMPTY is no work", x.bestOpen(120, 120), 0);
        e.sentence("Returns the setting;");
        e.due("a setting that was set is not changed", x.count(10), 2);
        e.sentence("NO_SUCH and BAD_VALUE as for workOf().");
        for (int day : NO_DAYS) {
            e.refused("bestOpen(" + day + ", 40)", BUSY, y -> y.bestOpen(day, 40), NO_SUCH);
            e.refused("bestOpen(1, " + day + ")", BUSY, y -> y.bestOpen(1, day), NO_SUCH);
        }
        for (int[] days : BACKWARDS) {
            e.refused("bestOpen(" + days[0] + ", " + days[1] + ")", BUSY, y -> y.bestOpen(days[0], days[1]), BAD_VALUE);
        }
        e.due("the last day is the first one", Diaries.fourOld(0).bestOpen(3, 3), 0);
    }

    private void notPromised() {
        e.chapter("Not promised");
        e.noEdge("How the state is held inside the object is free, as are the speed of each call, the text of toString and the "
            + "behaviour of equals and hashCode. Use of one object from several threads at once is not promised to be safe. Nothing is "
            + "promised beyond the answers and state changes described above, and nothing about an object after its 512th call.");
    }
}
