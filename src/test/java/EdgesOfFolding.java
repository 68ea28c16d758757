/** The edges in the chapter "Folding and unfolding". */
final class EdgesOfFolding {
    private static final int NONE = -6, OPEN = 1;
    private static final int EMPTY = 0, SAME = 1, RUNS = 2, PLACES = 3, PLAIN = 4;

    private final Edges e;

    private EdgesOfFolding(Edges e) {
        this.e = e;
    }

    static void test(Edges e) {
        EdgesOfFolding edges = new EdgesOfFolding(e);
        e.chapter("Folding and unfolding");
        edges.row();
        edges.nothingHappens();
        edges.toTheEnd();
        edges.unfolding();
        edges.foldingAgain();
        edges.openAsZero();
        edges.daysPass();
        edges.foldingAnew();
        edges.unfoldingToMark();
        edges.behindTheMark();
    }

    private void row() {
        e.sentence("The unfolded months stand in a row, in the order in which they were looked at last (the one that was looked "
            + "at longest ago first).");
        FoldedMonths x = Diaries.fourOld(3);
        e.row("at first", x);
        x.mark(0, 59, 59);
        e.row("one", x, 2);
        x.mark(0, 0, 0);
        x.mark(0, 31, 31);
        e.row("three", x, 2, 0, 1);
        x.isMarked(0, 0);
        e.row("the month 0 again", x, 2, 1, 0);
        x.isMarked(0, 59);
        e.row("the month 2 again", x, 1, 0, 2);
    }

    private void nothingHappens() {
        e.sentence("To look at a month: if it is young, or folded as EMPTY, nothing happens;");
        FoldedMonths x = Diaries.fourOld(1);
        x.mark(0, 0, 0);
        x.mark(0, 120, 120);
        e.counts("so far", x, 0, 1, 4);
        e.due("a young month, marked", x.isMarked(0, 120), 1);
        e.due("a young month, not marked", x.isMarked(0, 151), 0);
        e.due("the last month", x.isMarked(0, 3649), 0);
        e.due("an EMPTY month", x.isMarked(0, 31), 0);
        e.row("nothing happened", x, 0);
        e.counts("nothing happened", x, 0, 1, 4);
        e.form("EMPTY still", x, 1, EMPTY, 0, NONE);
        FoldedMonths y = Diaries.diary(1, 1, 30);
        y.mark(0, 0, 0);
        y.isMarked(0, 0);
        e.row("the last young day", y);
        y.pass(1);
        y.isMarked(0, 0);
        e.row("the first day on which it is OLD", y, 0);
    }

    private void toTheEnd() {
        e.sentence("if it is unfolded, it goes to the end of the row;");
        FoldedMonths x = Diaries.fourOld(3);
        x.mark(0, 0, 0);
        x.isMarked(0, 0);
        e.row("the only one", x, 0);
        x.mark(0, 31, 31);
        x.mark(0, 59, 59);
        e.row("three", x, 0, 1, 2);
        x.isMarked(0, 59);
        e.row("the last one", x, 0, 1, 2);
        x.isMarked(0, 31);
        e.row("the one in the middle", x, 0, 2, 1);
        x.isMarked(0, 0);
        e.row("the first one", x, 2, 1, 0);
        x.clear(0, 59, 59);
        e.form("unfolded, without a mark", x, 2, PLAIN, 16, NONE);
        x.isMarked(0, 0);
        e.row("it is no EMPTY one", x, 1, 2, 0);
        x.isMarked(0, 59);
        e.row("so it goes to the end, too", x, 1, 0, 2);
        e.counts("all that is no work", x, 0, 3, 4);
    }

    private void unfolding() {
        e.sentence("otherwise it is unfolded: the work becomes more by its size, and it comes to the end of the row.");
        FoldedMonths x = Diaries.fourOld(0);
        x.mark(0, 0, 1);
        x.mark(0, 31, 32);
        x.mark(0, 59, 59);
        x.mark(0, 61, 61);
        x.mark(0, 63, 63);
        x.mark(0, 65, 65);
        for (int s = 0; s < 16; s++) {
            x.mark(s, 90 + s, 93 + s);
        }
        x.set(OPEN, 4);
        int work = x.count(5);
        int unfolded = x.count(6);
        int folded = x.count(7);
        e.form("RUNS", x, 0, RUNS, 2, NONE);
        e.form("SAME", x, 1, SAME, 1, 0);
        e.form("PLACES", x, 2, PLACES, 3, NONE);
        e.form("PLAIN", x, 3, PLAIN, 16, NONE);
        x.isMarked(9, 59);
        e.row("PLACES", x, 2);
        e.counts("PLACES", x, work + 3, unfolded + 1, folded);
        x.isMarked(9, 31);
        e.row("SAME", x, 2, 1);
        e.counts("SAME", x, work + 4, unfolded + 2, folded);
        x.isMarked(9, 90);
        e.row("folded as PLAIN", x, 2, 1, 3);
        e.counts("folded as PLAIN", x, work + 20, unfolded + 3, folded);
        x.isMarked(9, 0);
        e.row("RUNS", x, 2, 1, 3, 0);
        e.counts("RUNS", x, work + 22, unfolded + 4, folded);
    }

    private void foldingAgain() {
        e.sentence("Then, as long as there are more than OPEN unfolded months in the row, the first one is folded again: the "
            + "work becomes more by its new size, and it leaves the row.");
        for (int open = 1; open <= 6; open++) {
            FoldedMonths x = Diaries.diary(1, open, 273);
            for (int month = 0; month < open; month++) {
                x.mark(month, x.ofMonth(month, 0), x.ofMonth(month, 0));
            }
            e.due("OPEN " + open + ": as many as OPEN", x.count(3), open);
            e.counts("as many as OPEN", x, 0, open, 9);
            int first = x.ofMonth(open, 0);
            x.mark(open, first, first);
            e.due("OPEN " + open + ": one more", x.count(3), open);
            e.due("the first one has left", x.ofMonth(0, 9), NONE);
            e.due("the second one is the first", x.ofMonth(1, 9), 0);
            e.counts("the first one is folded again", x, 2, open + 1, 10);
        }
        FoldedMonths x = Diaries.fourOld(1);
        x.mark(0, 0, 0);
        x.mark(0, 31, 31);
        e.counts("the month 0 is folded as RUNS", x, 2, 2, 5);
        x.mark(0, 2, 2);
        e.counts("the month 0 is unfolded (2), 1 is folded (2)", x, 6, 3, 6);
        x.mark(0, 4, 4);
        x.isMarked(0, 31);
        e.counts("the month 1 is unfolded (2), 0 is folded: PLACES, not RUNS", x, 6 + 2 + 2, 4, 7);
        e.form("its new size", x, 0, PLACES, 2, NONE);
        x.clear(0, 31, 31);
        x.isMarked(0, 0);
        e.counts("the month 0 is unfolded (2), 1 is folded: EMPTY", x, 12, 5, 8);
        e.form("its new size", x, 1, EMPTY, 0, NONE);
        e.row("it has left", x, 0);
    }

    private void openAsZero() {
        e.sentence("(With OPEN as 0 a month is folded again at once; what is asked of it is answered all the same.)");
        FoldedMonths x = Diaries.fourOld(0);
        x.mark(0, 29, 33);
        x.mark(1, 30, 31);
        e.row("OPEN is 0", x);
        int work = x.count(5);
        e.form("the month 0", x, 0, PLACES, 2, NONE);
        e.form("the month 1", x, 1, RUNS, 3, NONE);
        e.due("marks()", x.marks(0, 30, 32), 3);
        e.due("isMarked()", x.isMarked(1, 30), 1);
        e.due("both()", x.both(0, 1, 29, 33), 2);
        e.due("crowded()", x.crowded(2, 0, 58), 2);
        e.due("longest(), how many days", x.longest(0, 0, 58, 0), 5);
        e.due("longest(), the first day", x.longest(0, 0, 58, 1), 29);
        e.due("nextMark()", x.nextMark(1, 31), 31);
        e.row("folded again", x);
        e.due("unfolded and folded each time", x.count(5) - work, 6 * (2 + 2) + 6 * (3 + 3));
        e.due("mark() of a day more", x.mark(0, 34, 34), 1);
        e.due("it is marked", x.isMarked(0, 34), 1);
        e.row("folded again", x);
    }

    private void daysPass() {
        e.sentence("When days pass, and a month becomes OLD, it is folded at once (in ascending order, if there are several): the "
            + "work becomes more by its size.");
        FoldedMonths x = Diaries.diary(2, 2, 57);
        x.mark(0, 0, 0);
        x.mark(0, 31, 31);
        x.pass(1);
        e.counts("the last day on which no month is OLD", x, 0, 0, 0);
        e.form("the month 0 is young", x, 0, PLAIN, 16, NONE);
        x.pass(1);
        e.counts("the first day on which one is", x, 2, 0, 1);
        e.form("the month 0 is OLD", x, 0, RUNS, 2, NONE);
        e.form("the month 1 is young", x, 1, PLAIN, 16, NONE);
        x.pass(30);
        e.counts("the last day on which only one is OLD", x, 2, 0, 1);
        x.pass(1);
        e.counts("the month 1 is SAME", x, 3, 0, 2);
        FoldedMonths y = Diaries.diary(2, 2, 58);
        y.mark(0, 0, 0);
        y.mark(0, 31, 31);
        y.pass(32);
        e.form("of several the lower one is folded first", y, 0, RUNS, 2, NONE);
        e.form("then the higher one", y, 1, SAME, 1, 0);
        e.counts("two months", y, 3, 0, 2);
        FoldedMonths z = Diaries.diary(2, 2, 58);
        z.mark(0, 0, 0);
        z.mark(0, 31, 31);
        z.pass(1);
        z.isMarked(0, 0);
        z.pass(31);
        e.row("the month 0 stays unfolded", z, 0);
        e.form("so the month 1 is not SAME", z, 1, RUNS, 2, NONE);
        FoldedMonths w = Diaries.diary(12, 2, 3649);
        e.counts("EMPTY months are no work", w, 0, 0, 108);
    }

    private void foldingAnew() {
        e.sentence("If a mark is set or taken away in an OLD month: first, each folded month that is SAME and names this month, in "
            + "ascending order, is folded anew, as if this month had other marks (the work becomes more by the new size of each);");
        FoldedMonths x = fourAlike();
        e.counts("three name the month 0", x, 2 + 1 + 1 + 1, 4, 8);
        e.due("nothing is set", x.mark(0, 0, 0), 0);
        e.counts("nothing is folded anew", x, 5, 4, 8);
        e.due("a mark in a young month", x.mark(0, 120, 120), 1);
        e.counts("nothing is folded anew", x, 5, 4, 8);
        e.due("a mark in a month that names another one", x.mark(1, 70, 70), 1);
        e.counts("only that one: unfolded (1), folded (2)", x, 5 + 3, 5, 9);
        e.form("the month 1 names 0 still", x, 1, SAME, 1, 0);
        e.due("a mark in the month 0", x.mark(1, 5, 5), 1);
        e.form("the month 1, the first of both", x, 1, RUNS, 2, NONE);
        e.form("the month 3 names it", x, 3, SAME, 1, 1);
        e.form("the month 2 is left alone", x, 2, PLACES, 2, NONE);
        e.counts("anew (2 + 1), unfolded (2), folded (2)", x, 8 + 7, 6, 12);

        FoldedMonths y = fourAlike();
        e.due("the only mark is taken away", y.clear(0, 0, 0), 1);
        e.form("the month 0", y, 0, EMPTY, 0, NONE);
        e.form("the month 1", y, 1, RUNS, 2, NONE);
        e.form("the month 2 names 1", y, 2, SAME, 1, 1);
        e.form("the month 3 names 1", y, 3, SAME, 1, 1);
        e.counts("anew (2 + 1 + 1), unfolded (2), folded (0)", y, 5 + 6, 5, 12);

        FoldedMonths z = fourAlike();
        z.set(OPEN, 3);
        z.isMarked(0, 31);
        z.isMarked(0, 0);
        e.row("0 is named by 2 and 3, and no more by 1", z, 1, 0);
        e.counts("so far", z, 5 + 1 + 2, 6, 8);
        z.mark(1, 0, 0);
        e.row("the months 0 and 1 are not folded", z, 1, 0);
        e.form("the month 2 is folded anew, though the month 0 is unfolded", z, 2, RUNS, 2, NONE);
        e.form("the month 3 names it", z, 3, SAME, 1, 2);
        e.counts("anew (2 + 1)", z, 8 + 3, 6, 10);
        z.clear(1, 0, 0);
        e.form("nobody names 0 any more", z, 2, RUNS, 2, NONE);
        e.counts("nothing is folded anew", z, 11, 6, 10);

        FoldedMonths w = fourAlike();
        e.due("marks in three months", w.mark(0, 30, 60), 29);
        e.form("each month for itself: 0", w, 0, PLACES, 2, NONE);
        e.form("each month for itself: 1", w, 1, RUNS, 2, NONE);
        e.form("the month 2, whose day 59 was marked, too", w, 2, RUNS, 2, NONE);
        e.form("the month 3 named 0, then 1, then 2", w, 3, RUNS, 2, NONE);
    }

    /** KEEP is 1, OPEN 0; the months 0 to 3 are marked on their first days, and 1, 2 and 3 name 0. */
    private static FoldedMonths fourAlike() {
        FoldedMonths x = Diaries.fourOld(0);
        x.mark(0, 0, 0);
        x.mark(0, 31, 31);
        x.mark(0, 59, 59);
        x.mark(0, 90, 90);
        return x;
    }

    private void unfoldingToMark() {
        e.sentence("then, if the month is folded, it is unfolded (also if it is EMPTY);");
        FoldedMonths x = Diaries.fourOld(2);
        x.mark(0, 0, 0);
        e.counts("an EMPTY month has no words", x, 0, 1, 4);
        e.row("but it is unfolded", x, 0);
        x.mark(0, 1, 1);
        e.counts("it is not unfolded twice", x, 0, 1, 4);
        x.set(OPEN, 0);
        x.set(OPEN, 2);
        e.counts("folded again", x, 2, 1, 5);
        x.clear(0, 0, 0);
        e.counts("its size is work", x, 4, 2, 5);
        e.row("unfolded to take a mark away", x, 0);
        FoldedMonths y = Diaries.fourOld(2);
        y.mark(0, 120, 120);
        e.row("a young month is not unfolded", y);
        e.counts("a young month is no work", y, 0, 0, 4);
    }

    private void behindTheMark() {
        e.sentence("then the mark is set or taken away; then it is at the end of the row, and months are folded again, as told.");
        FoldedMonths x = Diaries.fourOld(2);
        x.mark(0, 0, 0);
        x.mark(0, 31, 31);
        e.row("two", x, 0, 1);
        x.mark(0, 1, 1);
        e.row("the first one is marked", x, 1, 0);
        x.clear(0, 31, 31);
        e.row("the first one is cleared", x, 0, 1);
        e.counts("no more than OPEN", x, 0, 2, 4);
        x.mark(0, 59, 59);
        e.row("one more than OPEN", x, 1, 2);
        e.counts("the first one is folded again", x, 2, 3, 5);
        FoldedMonths y = Diaries.fourOld(0);
        y.mark(0, 0, 2);
        e.row("OPEN is 0", y);
        e.form("folded with its new marks", y, 0, RUNS, 2, NONE);
        e.counts("folded once", y, 2, 1, 5);
    }
}
