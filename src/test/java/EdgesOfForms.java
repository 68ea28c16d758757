/** The edges of the five forms of a folded month, in the chapter "Calendar". */
final class EdgesOfForms {
    private static final int NONE = -6, OPEN = 1;
    private static final int EMPTY = 0, SAME = 1, RUNS = 2, PLACES = 3, PLAIN = 4;

    private final Edges e;

    private EdgesOfForms(Edges e) {
        this.e = e;
    }

    static void test(Edges e) {
        EdgesOfForms edges = new EdgesOfForms(e);
        e.chapter("Calendar");
        e.noEdge("A folded month has one of these forms, with a size in words:");
        edges.empty();
        edges.same();
        edges.sameDays();
        edges.lowestOfSeveral();
        edges.goesOnNaming();
        edges.runs();
        edges.places();
        edges.plain();
        edges.smallest();
        edges.keptCounts();
    }

    /** Marks days of young months of a diary, as "subject first last" in threes, and lets 90 days pass. */
    private static FoldedMonths foldedWith(int... marks) {
        FoldedMonths x = Diaries.diary(3, 2, 89);
        for (int i = 0; i + 2 < marks.length; i += 3) {
            x.mark(marks[i], marks[i + 1], marks[i + 2]);
        }
        x.pass(62);
        return x;
    }

    private void empty() {
        e.sentence("EMPTY (0): there is no mark in it; 0 words.");
        e.form("no mark", foldedWith(), 0, EMPTY, 0, NONE);
        e.form("one mark, on the first day", foldedWith(0, 0, 0), 0, RUNS, 2, NONE);
        e.form("one mark, on the last day, of the last subject", foldedWith(15, 30, 30), 0, RUNS, 2, NONE);
        e.form("a mark on the day behind it", foldedWith(0, 31, 31), 0, EMPTY, 0, NONE);
        e.form("a mark on the day ahead of it", foldedWith(0, 30, 30), 1, EMPTY, 0, NONE);
        FoldedMonths x = Diaries.fourOld(0);
        x.mark(0, 0, 1);
        x.clear(0, 0, 0);
        e.form("one mark is left", x, 0, RUNS, 2, NONE);
        x.clear(0, 1, 1);
        e.form("the last mark is taken away", x, 0, EMPTY, 0, NONE);
        e.due("EMPTY is possible", x.sizeAs(0, EMPTY), 0);
        x.mark(0, 1, 1);
        e.due("EMPTY is not possible", x.sizeAs(0, EMPTY), NONE);
    }

    private void same() {
        e.sentence("SAME (1): its marks are the same as those of some folded month with a lower number that is not SAME");
        e.form("the same marks", foldedWith(3, 4, 6, 3, 35, 37), 1, SAME, 1, 0);
        e.form("the lower one", foldedWith(3, 4, 6, 3, 35, 37), 0, RUNS, 2, NONE);
        e.form("one mark more", foldedWith(3, 4, 6, 3, 35, 38), 1, RUNS, 2, NONE);
        e.form("one mark less", foldedWith(3, 4, 6, 3, 35, 36), 1, RUNS, 2, NONE);
        e.form("one more subject", foldedWith(3, 4, 6, 3, 35, 37, 4, 35, 35), 1, RUNS, 3, NONE);
        e.form("two are SAME", foldedWith(3, 4, 6, 3, 35, 37, 3, 63, 65), 2, SAME, 1, 0);

        FoldedMonths x = Diaries.fourOld(1);
        x.mark(0, 31, 31);
        x.mark(0, 0, 0);
        x.set(OPEN, 0);
        e.form("a higher number is not named", x, 0, RUNS, 2, NONE);
        e.form("a higher number is not folded anew", x, 1, RUNS, 2, NONE);
        e.due("the higher one could be SAME now", x.sizeAs(1, SAME), 1);
        e.due("the lower one could not", x.sizeAs(0, SAME), NONE);

        FoldedMonths y = Diaries.fourOld(2);
        y.mark(0, 59, 59);
        y.mark(0, 0, 0);
        y.set(OPEN, 1);
        e.row("the lower one is unfolded", y, 0);
        e.form("an unfolded one is not named", y, 2, RUNS, 2, NONE);

        FoldedMonths z = Diaries.fourOld(0);
        z.mark(0, 0, 0);
        z.mark(0, 31, 31);
        z.set(OPEN, 2);
        z.mark(0, 59, 59);
        z.isMarked(0, 0);
        z.set(OPEN, 1);
        e.row("the month 0 is unfolded", z, 0);
        e.form("the month 1 is SAME", z, 1, SAME, 1, 0);
        e.form("the only folded one with these marks is SAME", z, 2, RUNS, 2, NONE);
        e.due("SAME is not possible", z.sizeAs(2, SAME), NONE);
    }

    private void sameDays() {
        e.sentence("(for each subject on the same days of the month;");
        e.form("another day of the month", foldedWith(3, 4, 4, 3, 36, 36), 1, RUNS, 2, NONE);
        e.form("another subject", foldedWith(3, 4, 4, 4, 35, 35), 1, RUNS, 2, NONE);
        e.form("as many marks, subjects exchanged", foldedWith(3, 4, 4, 4, 5, 5, 4, 35, 35, 3, 36, 36), 1, PLACES, 2, NONE);
        e.form("subjects far apart", foldedWith(0, 4, 4, 15, 4, 4, 0, 35, 35, 15, 35, 35), 1, SAME, 1, 0);
        e.form("the last day of a longer month", foldedWith(3, 30, 30, 3, 58, 58), 1, RUNS, 2, NONE);
        e.form("the day 28 of both", foldedWith(3, 27, 27, 3, 58, 58), 1, SAME, 1, 0);
        e.form("the day 31 of both", foldedWith(3, 30, 30, 3, 89, 89), 2, SAME, 1, 0);
        e.form("all days of a longer month", foldedWith(3, 0, 58), 1, RUNS, 2, NONE);
        e.form("all days of a month as long", foldedWith(3, 0, 30, 3, 59, 89), 2, SAME, 1, 0);
    }

    private void lowestOfSeveral() {
        e.sentence("of several the lowest one): it names this month");
        FoldedMonths x = Diaries.fourOld(2);
        x.mark(0, 31, 31);
        x.mark(0, 0, 0);
        x.set(OPEN, 1);
        x.set(OPEN, 0);
        e.form("not SAME", x, 0, RUNS, 2, NONE);
        e.form("not SAME, as 0 was unfolded", x, 1, RUNS, 2, NONE);
        x.mark(0, 59, 59);
        e.form("the lowest of two", x, 2, SAME, 1, 0);
        x.mark(0, 90, 90);
        e.form("the lowest of two, behind a SAME one", x, 3, SAME, 1, 0);
    }

    private void goesOnNaming() {
        e.sentence("(and goes on naming it while that one is unfolded, or if it becomes SAME itself); 1 word.");
        FoldedMonths x = Diaries.fourOld(0);
        x.mark(0, 31, 31);
        x.mark(0, 59, 59);
        e.form("the month 2", x, 2, SAME, 1, 1);
        x.set(OPEN, 1);
        x.isMarked(0, 31);
        e.row("the month 1 is unfolded", x, 1);
        e.form("while that one is unfolded", x, 2, SAME, 1, 1);
        x.mark(0, 0, 0);
        x.set(OPEN, 0);
        e.form("the month 0", x, 0, RUNS, 2, NONE);
        x.isMarked(0, 31);
        e.form("the month 1 becomes SAME", x, 1, SAME, 1, 0);
        e.form("if it becomes SAME itself", x, 2, SAME, 1, 1);
        x.mark(5, 0, 0);
        e.form("the month 1 named 0", x, 1, RUNS, 2, NONE);
        e.form("the month 2 did not", x, 2, SAME, 1, 1);
        x.mark(5, 31, 31);
        e.form("the month 1 is as the month 0 again", x, 1, SAME, 1, 0);
        e.form("the month 2 named 1", x, 2, RUNS, 2, NONE);
    }

    private void runs() {
        e.sentence("RUNS (2): 1 word, and 1 for each run (a greatest row of days of the month one after the other on which a "
            + "subject is marked).");
        e.due("no run", foldedWith().sizeAs(0, RUNS), 1);
        e.due("a run of one day, the first one", foldedWith(0, 0, 0).sizeAs(0, RUNS), 2);
        e.due("a run of one day, the last one", foldedWith(0, 30, 30).sizeAs(0, RUNS), 2);
        e.due("a run of all days", foldedWith(0, 0, 30).sizeAs(0, RUNS), 2);
        e.due("two runs, a day between them", foldedWith(0, 0, 14, 0, 16, 30).sizeAs(0, RUNS), 3);
        e.due("no day between them: one run", foldedWith(0, 0, 14, 0, 15, 30).sizeAs(0, RUNS), 2);
        e.due("the first and the last day", foldedWith(0, 0, 0, 0, 30, 30).sizeAs(0, RUNS), 3);
        e.due("two subjects on the same days", foldedWith(0, 5, 9, 1, 5, 9).sizeAs(0, RUNS), 3);
        e.due("two subjects one after the other", foldedWith(0, 5, 9, 1, 10, 12).sizeAs(0, RUNS), 3);
        FoldedMonths x = foldedWith(0, 20, 65);
        e.due("from month to month: 0", x.sizeAs(0, RUNS), 2);
        e.due("from month to month: 1", x.sizeAs(1, RUNS), 2);
        e.due("from month to month: 2", x.sizeAs(2, RUNS), 2);
        e.due("the last subject in the month ahead of it", foldedWith(15, 0, 30, 0, 40, 40).sizeAs(1, RUNS), 2);
        e.due("the first subject in the month behind it", foldedWith(15, 40, 40, 0, 59, 70).sizeAs(1, RUNS), 2);
        FoldedMonths y = Diaries.diary(1, 2, 30);
        for (int s = 0; s < 16; s++) {
            for (int day = 0; day <= 30; day += 2) {
                y.mark(s, day, day);
            }
        }
        e.due("the most runs", y.sizeAs(0, RUNS), 1 + 16 * 16);
    }

    private void places() {
        e.sentence("PLACES (3): 1 word, and a third of the marks, rounded up.");
        e.due("no mark", foldedWith().sizeAs(0, PLACES), 1);
        e.due("one mark", foldedWith(0, 0, 0).sizeAs(0, PLACES), 2);
        e.due("two marks", foldedWith(0, 0, 0, 15, 30, 30).sizeAs(0, PLACES), 2);
        e.due("three marks", foldedWith(0, 0, 2).sizeAs(0, PLACES), 2);
        e.due("four marks", foldedWith(0, 0, 3).sizeAs(0, PLACES), 3);
        e.due("marks of the next month are none of it", foldedWith(0, 28, 40).sizeAs(0, PLACES), 2);
        e.due("the last subject in the month ahead of it", foldedWith(15, 0, 30, 0, 40, 40).sizeAs(1, PLACES), 2);
        e.due("the first subject in the month behind it", foldedWith(15, 40, 40, 0, 59, 70).sizeAs(1, PLACES), 2);
        FoldedMonths x = Diaries.diary(1, 2, 30);
        for (int s = 0; s < 16; s++) {
            x.mark(s, 0, 30);
        }
        e.due("the most marks", x.sizeAs(0, PLACES), 1 + 166);
    }

    private void plain() {
        e.sentence("PLAIN (4): 16 words.");
        e.due("no mark", foldedWith().sizeAs(0, PLAIN), 16);
        e.due("a mark", foldedWith(0, 0, 0).sizeAs(0, PLAIN), 16);
        e.due("a month to come", foldedWith().sizeAs(119, PLAIN), 16);
        FoldedMonths x = manyRuns(16, 0, 0);
        e.due("more marks than 16 words can tell", x.sizeAs(0, PLAIN), 16);
        e.sentence("A month that is PLAIN, folded or not, has 16 words.");
        e.form("folded as PLAIN", x, 0, PLAIN, 16, NONE);
        e.due("folded", x.ofMonth(0, 3), 0);
        x.isMarked(0, 0);
        e.form("unfolded", x, 0, PLAIN, 16, NONE);
        e.due("not folded", x.ofMonth(0, 3), 1);
        e.form("young", x, 1, PLAIN, 16, NONE);
    }

    /** Subjects of three days each, then one of so many days; then subjects of single days, so many of them; folded. */
    private static FoldedMonths manyRuns(int threes, int days, int singles) {
        FoldedMonths x = Diaries.diary(1, 2, 30);
        for (int s = 0; s < threes; s++) {
            x.mark(s, s, s + 2);
        }
        if (days > 0) {
            x.mark(threes, 0, days - 1);
        }
        for (int i = 0; i < singles; i++) {
            x.mark(15, 2 * i, 2 * i);
        }
        x.pass(1);
        return x;
    }

    private void smallest() {
        e.sentence("To fold a month: it takes the form with the smallest size of those that are possible, of several the one "
            + "with the lowest number.");
        e.form("EMPTY, not SAME as the month 0", foldedWith(), 1, EMPTY, 0, NONE);
        e.form("SAME, not RUNS or PLACES", foldedWith(3, 0, 0, 3, 31, 31), 1, SAME, 1, 0);
        e.form("RUNS and PLACES have 2", foldedWith(3, 0, 0), 0, RUNS, 2, NONE);
        e.form("RUNS has 3, PLACES 2", foldedWith(3, 0, 0, 3, 2, 2), 0, PLACES, 2, NONE);
        e.form("RUNS has 2, PLACES 3", foldedWith(3, 0, 3), 0, RUNS, 2, NONE);
        e.form("both have 3", foldedWith(3, 0, 0, 3, 2, 4), 0, RUNS, 3, NONE);
        e.form("RUNS has 15, PLACES 15", manyRuns(14, 0, 0), 0, RUNS, 15, NONE);
        e.form("RUNS, PLACES and PLAIN have 16", manyRuns(15, 0, 0), 0, RUNS, 16, NONE);
        e.form("RUNS and PLAIN have 16, PLACES 17", manyRuns(14, 4, 0), 0, RUNS, 16, NONE);
        e.form("RUNS has 17, PLACES and PLAIN 16", manyRuns(14, 0, 2), 0, PLACES, 16, NONE);
        e.form("RUNS has 18, PLACES and PLAIN 16", manyRuns(14, 0, 3), 0, PLACES, 16, NONE);
        e.form("RUNS has 19, PLACES 17, PLAIN 16", manyRuns(14, 0, 4), 0, PLAIN, 16, NONE);
        e.form("RUNS and PLACES have 17, PLAIN 16", manyRuns(15, 0, 1), 0, PLAIN, 16, NONE);
        FoldedMonths x = Diaries.diary(2, 2, 58);
        for (int s = 0; s < 16; s++) {
            x.mark(s, s, s + 3);
            x.mark(s, 31 + s, 31 + s + 3);
        }
        x.pass(32);
        e.form("PLAIN", x, 0, PLAIN, 16, NONE);
        e.form("SAME as a month that is folded as PLAIN", x, 1, SAME, 1, 0);
    }

    private void keptCounts() {
        e.sentence("How many marks each subject has in a month is kept with it, folded or not.");
        for (int form = EMPTY; form <= PLAIN; form++) {
            FoldedMonths x = Diaries.diary(2, 2, 58);
            int marks = form == EMPTY ? 0 : form == PLACES ? 3 : 4;
            for (int s = 0; s < (form == PLAIN ? 16 : 1); s++) {
                for (int i = 0; i < marks; i++) {
                    int day = form == PLACES ? 2 * i : s % 2 + i;
                    x.mark(s, day, day);
                    x.mark(s, 31 + day, 31 + day);
                }
            }
            int month = form == SAME ? 1 : 0;
            for (int s = 0; s < 16; s++) {
                e.due("young: of the subject " + s, x.inMonth(s, month), s == 0 || form == PLAIN ? marks : 0);
            }
            x.pass(32);
            e.due("the form", x.ofMonth(month, 4), form);
            int work = x.count(5);
            for (int s = 0; s < 16; s++) {
                e.due("in the form " + form + ": of the subject " + s, x.inMonth(s, month), s == 0 || form == PLAIN ? marks : 0);
            }
            e.due("no work", x.count(5), work);
            x.isMarked(0, month * 31);
            e.due("unfolded, but for EMPTY", x.ofMonth(month, 3), form == EMPTY ? 0 : 1);
            for (int s = 0; s < 16; s++) {
                e.due("unfolded: of the subject " + s, x.inMonth(s, month), s == 0 || form == PLAIN ? marks : 0);
            }
        }
    }
}
