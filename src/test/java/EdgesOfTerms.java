/** The edges in the chapters "What it is" to "Calendar", but for the forms of months. */
final class EdgesOfTerms {
    private static final int NO_SUCH = -1, BAD_VALUE = -2, BAD_TEXT = -3, TOO_MANY = -4, NOT_POSSIBLE = -5, NONE = -6;
    private static final int KEEP = 0, OPEN = 1, PLAIN = 4;
    private static final int[] LENGTHS = {31, 28, 31, 30, 31, 30, 31, 31, 30, 31, 30, 31};

    private final Edges e;

    private EdgesOfTerms(Edges e) {
        this.e = e;
    }

    static void test(Edges e) {
        EdgesOfTerms edges = new EdgesOfTerms(e);
        edges.callsOfAnObject();
        edges.errors();
        edges.orderOfErrors();
        edges.errorsThatChangeNothing();
        edges.none();
        edges.numbersFromZero();
        edges.divisions();
        edges.settings();
        edges.days();
        edges.months();
        edges.subjects();
        edges.markedDays();
        edges.oldMonths();
        edges.plainMonths();
    }

    private void callsOfAnObject() {
        e.chapter("What it is");
        e.noEdge("A diary of marks, day by day for sixteen subjects, whose old months are folded: months of a calendar, marks "
            + "that are set and taken away, five ways to fold a month of which the smallest is taken, months that are folded "
            + "as the same as another one, counts that are kept with folded months, questions whose edges need a month "
            + "unfolded, a few unfolded months at a time, work that is counted, days that pass, forecasts of sizes and of "
            + "unfolding, marks that are read from texts, undo, and saved states.");
        e.sentence("An object is used for at most 512 calls after it has been made; what later calls answer is free.");
        FoldedMonths x = new FoldedMonths();
        x.set(KEEP, 1);
        x.set(OPEN, 0);
        x.pass(120);
        for (int call = 4; call < 512; call++) {
            e.due("the call " + call + ", mark() or clear()", call % 2 == 0 ? x.mark(0, 0, 0) : x.clear(0, 0, 0), 1);
        }
        e.due("the call 512, count(5), two words for each mark", x.count(5), 2 * 508);
        FoldedMonths y = new FoldedMonths();
        for (int call = 1; call < 512; call++) {
            e.due("the call " + call + ", mark()", y.mark(15, 0, 0), call == 1 ? 1 : 0);
        }
        e.due("the call 512, undo()", y.undo(), 5);
        FoldedMonths z = new FoldedMonths();
        z.save(0);
        for (int call = 2; call < 512; call++) {
            e.due("the call " + call + ", save() or restore()", call % 2 == 0 ? z.restore(0) : z.save(1), 0);
        }
        e.due("the call 512, restore(1)", z.restore(1), 0);
        FoldedMonths p = new FoldedMonths();
        for (int call = 1; call < 512; call++) {
            e.due("the call " + call + ", put() or wipe()", call % 2 == 0 ? p.wipe() : p.put('p'), 1);
        }
        e.due("the call 512, wipe()", p.wipe(), 1);
    }

    private void errors() {
        e.chapter("Terms");
        e.noEdge("CONVENTIONS.");
        e.sentence("A method that fails returns one of the error codes NO_SUCH (-1), BAD_VALUE (-2), BAD_TEXT (-3), "
            + "TOO_MANY (-4) and NOT_POSSIBLE (-5);");
        FoldedMonths x = new FoldedMonths();
        e.due("isMarked(16, 0)", x.isMarked(16, 0), -1);
        e.due("pass(0)", x.pass(0), -2);
        e.due("carryOut() of nothing", x.carryOut(), -3);
        e.due("pass(400), too far", Diaries.diary(2, 2, 3649).pass(400), -4);
        e.due("undo() of nothing", x.undo(), -5);
    }

    private void orderOfErrors() {
        e.sentence("it names its errors in the order in which they are checked, and the first one that applies is returned.");
        FoldedMonths x = Diaries.diary(2, 2, 3649);
        e.due("set(KEEP, 13), NOT_POSSIBLE, too", x.set(KEEP, 13), BAD_VALUE);
        e.due("set(2, 1), NOT_POSSIBLE, too", x.set(2, 1), BAD_VALUE);
        e.due("pass(401), TOO_MANY, too", x.pass(401), BAD_VALUE);
        FoldedMonths y = new FoldedMonths();
        e.due("mark(16, 5, 4), BAD_VALUE, too", y.mark(16, 5, 4), NO_SUCH);
        e.due("mark(16, 0, 5), NOT_POSSIBLE, too", y.mark(16, 0, 5), NO_SUCH);
        e.due("mark(0, 3650, 5), BAD_VALUE and NOT_POSSIBLE, too", y.mark(0, 3650, 5), NO_SUCH);
        e.due("mark(0, 0, 3650), NOT_POSSIBLE, too", y.mark(0, 0, 3650), NO_SUCH);
        e.due("mark(0, 5, 4), NOT_POSSIBLE, too", y.mark(0, 5, 4), BAD_VALUE);
        e.due("clear(16, 5, 4), BAD_VALUE, too", y.clear(16, 5, 4), NO_SUCH);
        e.due("clear(16, 0, 5), NOT_POSSIBLE, too", y.clear(16, 0, 5), NO_SUCH);
        e.due("clear(0, 3650, 5), BAD_VALUE and NOT_POSSIBLE, too", y.clear(0, 3650, 5), NO_SUCH);
        e.due("clear(0, 0, 3650), NOT_POSSIBLE, too", y.clear(0, 0, 3650), NO_SUCH);
        e.due("clear(0, 5, 4), NOT_POSSIBLE, too", y.clear(0, 5, 4), BAD_VALUE);
        e.due("marks(16, 5, 4), BAD_VALUE, too", y.marks(16, 5, 4), NO_SUCH);
        e.due("marks(0, 3650, 5), BAD_VALUE, too", y.marks(0, 3650, 5), NO_SUCH);
        e.due("marks(0, 5, -1), BAD_VALUE, too", y.marks(0, 5, -1), NO_SUCH);
        e.due("both(16, 0, 5, 4), BAD_VALUE, too", y.both(16, 0, 5, 4), NO_SUCH);
        e.due("both(0, 16, 5, 4), BAD_VALUE, too", y.both(0, 16, 5, 4), NO_SUCH);
        e.due("both(0, 1, 3650, 4), BAD_VALUE, too", y.both(0, 1, 3650, 4), NO_SUCH);
        e.due("both(0, 1, 5, -1), BAD_VALUE, too", y.both(0, 1, 5, -1), NO_SUCH);
        e.due("crowded(0, 3650, 0), BAD_VALUE, too", y.crowded(0, 3650, 0), NO_SUCH);
        e.due("crowded(17, 0, -1), BAD_VALUE, too", y.crowded(17, 0, -1), NO_SUCH);
        e.due("longest(16, 0, 0, 2), BAD_VALUE, too", y.longest(16, 0, 0, 2), NO_SUCH);
        e.due("longest(0, 3650, 0, 2), BAD_VALUE, too", y.longest(0, 3650, 0, 2), NO_SUCH);
        e.due("longest(0, 0, -1, 0), BAD_VALUE, too", y.longest(0, 0, -1, 0), NO_SUCH);
        e.due("ofMonth(120, 10), BAD_VALUE, too", y.ofMonth(120, 10), NO_SUCH);
        e.due("dateOf(3650, 4), BAD_VALUE, too", y.dateOf(3650, 4), NO_SUCH);
        e.due("sizeAs(120, 5), BAD_VALUE, too", y.sizeAs(120, 5), NO_SUCH);
        e.due("workOf(3650, 0), BAD_VALUE, too", y.workOf(3650, 0), NO_SUCH);
        e.due("workOf(5, -1), BAD_VALUE, too", y.workOf(5, -1), NO_SUCH);
        e.due("bestOpen(3650, 0), BAD_VALUE, too", y.bestOpen(3650, 0), NO_SUCH);
        e.due("bestOpen(5, -1), BAD_VALUE, too", y.bestOpen(5, -1), NO_SUCH);
        e.due("restore(2), NOT_POSSIBLE, too", y.restore(2), BAD_VALUE);
        FoldedMonths z = State.told(Diaries::late);
        e.due("put(32) when the pad is full, TOO_MANY, too", z.put(32), BAD_VALUE);
    }

    private void errorsThatChangeNothing() {
        e.sentence("A call that returns an error changes nothing.");
        Story busy = Diaries::busy;
        e.refused("set(2, 1)", busy, x -> x.set(2, 1), BAD_VALUE);
        e.refused("set(KEEP, 2) on the day 130", busy, x -> x.set(KEEP, 2), NOT_POSSIBLE);
        e.refused("set(OPEN, 7)", busy, x -> x.set(OPEN, 7), BAD_VALUE);
        e.refused("pass(401)", busy, x -> x.pass(401), BAD_VALUE);
        e.refused("pass(51), too far", Diaries::late, x -> x.pass(51), TOO_MANY);
        e.refused("mark(16, 0, 9)", busy, x -> x.mark(16, 0, 9), NO_SUCH);
        e.refused("mark(0, 9, 8)", busy, x -> x.mark(0, 9, 8), BAD_VALUE);
        e.refused("mark(0, 0, 131)", busy, x -> x.mark(0, 0, 131), NOT_POSSIBLE);
        e.refused("clear(16, 0, 9)", busy, x -> x.clear(16, 0, 9), NO_SUCH);
        e.refused("clear(0, 9, 8)", busy, x -> x.clear(0, 9, 8), BAD_VALUE);
        e.refused("clear(0, 0, 131)", busy, x -> x.clear(0, 0, 131), NOT_POSSIBLE);
        e.refused("marks(0, 5, 3650)", busy, x -> x.marks(0, 5, 3650), NO_SUCH);
        e.refused("marks(0, 35, 5)", busy, x -> x.marks(0, 35, 5), BAD_VALUE);
        e.refused("isMarked(16, 5)", busy, x -> x.isMarked(16, 5), NO_SUCH);
        e.refused("both(0, 16, 0, 99)", busy, x -> x.both(0, 16, 0, 99), NO_SUCH);
        e.refused("both(0, 1, 99, 0)", busy, x -> x.both(0, 1, 99, 0), BAD_VALUE);
        e.refused("crowded(1, 0, 3650)", busy, x -> x.crowded(1, 0, 3650), NO_SUCH);
        e.refused("crowded(17, 0, 99)", busy, x -> x.crowded(17, 0, 99), BAD_VALUE);
        e.refused("longest(16, 0, 99, 0)", busy, x -> x.longest(16, 0, 99, 0), NO_SUCH);
        e.refused("longest(0, 0, 99, 2)", busy, x -> x.longest(0, 0, 99, 2), BAD_VALUE);
        e.refused("nextMark(0, -1)", busy, x -> x.nextMark(0, -1), NO_SUCH);
        e.refused("ofMonth(0, 10)", busy, x -> x.ofMonth(0, 10), BAD_VALUE);
        e.refused("inMonth(16, 0)", busy, x -> x.inMonth(16, 0), NO_SUCH);
        e.refused("dayOf(0, 2, 29)", busy, x -> x.dayOf(0, 2, 29), NO_SUCH);
        e.refused("dateOf(0, 4)", busy, x -> x.dateOf(0, 4), BAD_VALUE);
        e.refused("count(13)", busy, x -> x.count(13), BAD_VALUE);
        e.refused("sizeAs(0, 5)", busy, x -> x.sizeAs(0, 5), BAD_VALUE);
        e.refused("workOf(5, 4)", busy, x -> x.workOf(5, 4), BAD_VALUE);
        e.refused("bestOpen(0, 3650)", busy, x -> x.bestOpen(0, 3650), NO_SUCH);
        e.refused("put(0)", busy, x -> x.put(0), BAD_VALUE);
        e.refused("put('1') when the pad is full", Diaries::late, x -> x.put('1'), TOO_MANY);
        e.refused("carryOut() of a faulty text", Diaries::fresh, x -> x.carryOut(), BAD_TEXT);
        e.refused("undo() of nothing", Diaries::fresh, x -> x.undo(), NOT_POSSIBLE);
        e.refused("save(2)", busy, x -> x.save(2), BAD_VALUE);
        e.refused("restore(2)", busy, x -> x.restore(2), BAD_VALUE);
        e.refused("restore(1), nothing saved", Diaries::fresh, x -> x.restore(1), NOT_POSSIBLE);
    }

    private void none() {
        e.sentence("NONE (-6) is not an error; it is returned only if no error applies.");
        FoldedMonths x = new FoldedMonths();
        e.due("longest(0, 0, 9, 1)", x.longest(0, 0, 9, 1), -6);
        e.due("longest(0, 9, 0, 1)", x.longest(0, 9, 0, 1), BAD_VALUE);
        e.due("longest(16, 0, 9, 1)", x.longest(16, 0, 9, 1), NO_SUCH);
        e.due("nextMark(0, 0)", x.nextMark(0, 0), -6);
        e.due("nextMark(0, 3650)", x.nextMark(0, 3650), NO_SUCH);
        e.due("ofMonth(0, 6)", x.ofMonth(0, 6), -6);
        e.due("ofMonth(120, 6)", x.ofMonth(120, 6), NO_SUCH);
        e.due("ofMonth(0, 9)", x.ofMonth(0, 9), -6);
        e.due("ofMonth(-1, 9)", x.ofMonth(-1, 9), NO_SUCH);
        e.due("sizeAs(0, SAME)", x.sizeAs(0, Edges.SAME), -6);
        e.due("sizeAs(120, SAME)", x.sizeAs(120, Edges.SAME), NO_SUCH);
        FoldedMonths y = Diaries.fourOld(0);
        y.mark(0, 0, 0);
        int work = y.count(5);
        e.due("nextMark(0, 1), behind the last mark", y.nextMark(0, 1), NONE);
        e.due("it is no error, so the month 0 was looked at", y.count(5) - work, 2 + 2);
    }

    private void numbersFromZero() {
        e.sentence("Everything is numbered from 0.");
        FoldedMonths x = new FoldedMonths();
        e.due("mark(0, 0, 0)", x.mark(0, 0, 0), 1);
        e.due("nextMark(0, 0)", x.nextMark(0, 0), 0);
        e.due("inMonth(0, 0)", x.inMonth(0, 0), 1);
        e.due("ofMonth(0, 0)", x.ofMonth(0, 0), 0);
        e.due("dateOf(0, 3), the month", x.dateOf(0, 3), 0);
        e.due("save(0)", x.save(0), 0);
        FoldedMonths y = Diaries.fourOld(1);
        y.mark(0, 31, 31);
        e.due("the first place of the row", y.ofMonth(1, 9), 0);
    }

    private void divisions() {
        e.sentence("Divisions are rounded up, where \"rounded up\" is written, otherwise down.");
        int[] due = {1, 2, 2, 2, 3, 3, 3, 4};
        FoldedMonths x = Diaries.diary(2, 2, 30);
        for (int marks = 0; marks < due.length; marks++) {
            e.due("PLACES of " + marks + " marks", x.sizeAs(0, Edges.PLACES), due[marks]);
            x.mark(marks % 3, marks, marks);
        }
    }

    private void settings() {
        e.chapter("Settings");
        e.noEdge("(In parentheses: range; first value.)");
        e.sentence("KEEP (1 to 12; 2) and OPEN (0 to 6; 2), in months.");
        FoldedMonths x = new FoldedMonths();
        e.due("the first KEEP", x.count(9), 2);
        e.due("the first OPEN", x.count(10), 2);
        e.due("KEEP as 1", x.set(KEEP, 1), 2);
        e.due("KEEP as 0", x.set(KEEP, 0), BAD_VALUE);
        e.due("KEEP as 12", x.set(KEEP, 12), 1);
        e.due("KEEP as 13", x.set(KEEP, 13), BAD_VALUE);
        e.due("OPEN as 0", x.set(OPEN, 0), 2);
        e.due("OPEN as -1", x.set(OPEN, -1), BAD_VALUE);
        e.due("OPEN as 6", x.set(OPEN, 6), 0);
        e.due("OPEN as 7", x.set(OPEN, 7), BAD_VALUE);
        e.due("KEEP stands", x.count(9), 12);
        e.due("OPEN stands", x.count(10), 6);
        e.due("KEEP as 1: one month", Diaries.diary(1, 2, 31).count(2), 1);
        e.due("KEEP as 12: months, not days", Diaries.diary(12, 2, 365).count(2), 1);
        FoldedMonths y = Diaries.diary(1, 6, 273);
        for (int month = 0; month < 7; month++) {
            y.mark(0, y.ofMonth(month, 0), y.ofMonth(month, 0));
        }
        e.row("OPEN as 6: six months", y, 1, 2, 3, 4, 5, 6);
        FoldedMonths z = Diaries.fourOld(0);
        z.mark(0, 0, 0);
        e.row("OPEN as 0: none", z);
    }

    private void days() {
        e.chapter("Calendar");
        e.sentence("Days are numbered from 0 to 3649:");
        FoldedMonths x = new FoldedMonths();
        e.due("isMarked(0, -1)", x.isMarked(0, -1), NO_SUCH);
        e.due("isMarked(0, 0)", x.isMarked(0, 0), 0);
        e.due("isMarked(0, 3649)", x.isMarked(0, 3649), 0);
        e.due("isMarked(0, 3650)", x.isMarked(0, 3650), NO_SUCH);
        e.sentence("ten years, 0 to 9, of 365 days each,");
        for (int year = 0; year < 10; year++) {
            e.due("the first day of the year " + year, x.dayOf(year, 1, 1), year * 365);
            e.due("the last day of the year " + year, x.dayOf(year, 12, 31), year * 365 + 364);
            e.due("the year of its first day", x.dateOf(year * 365, 0), year);
            e.due("the year of its last day", x.dateOf(year * 365 + 364, 0), year);
            e.due("no year has a day between two months", x.dayOf(year, 2, 29), NO_SUCH);
        }
        e.due("the year -1", x.dayOf(-1, 12, 31), NO_SUCH);
        e.due("the year 10", x.dayOf(10, 1, 1), NO_SUCH);
        e.sentence("with twelve months of 31, 28, 31, 30, 31, 30, 31, 31, 30, 31, 30 and 31 days.");
        int first = 0;
        for (int month = 0; month < 120; month++) {
            int last = first + LENGTHS[month % 12] - 1;
            FoldedMonths y = new FoldedMonths();
            e.due("days of the month " + month, y.ofMonth(month, 1), LENGTHS[month % 12]);
            e.due("first day of the month " + month, y.ofMonth(month, 0), first);
            e.due("month of its first day", y.dateOf(first, 3), month);
            e.due("month of its last day", y.dateOf(last, 3), month);
            e.due("its first day", y.dateOf(first, 2), 1);
            e.due("its last day", y.dateOf(last, 2), LENGTHS[month % 12]);
            e.due("a day more", y.dayOf(month / 12, month % 12 + 1, LENGTHS[month % 12] + 1), NO_SUCH);
            first = last + 1;
        }
    }

    private void months() {
        e.sentence("Months are numbered through, 0 to 119; the month 12 is the first one of the year 1.");
        FoldedMonths x = new FoldedMonths();
        e.due("the month -1", x.ofMonth(-1, 0), NO_SUCH);
        e.due("the month 0", x.ofMonth(0, 0), 0);
        e.due("the month 11", x.ofMonth(11, 0), 334);
        e.due("the month 12", x.ofMonth(12, 0), 365);
        e.due("the month of the day 364", x.dateOf(364, 3), 11);
        e.due("the month of the day 365", x.dateOf(365, 3), 12);
        e.due("the year of the day 364", x.dateOf(364, 0), 0);
        e.due("the year of the day 365", x.dateOf(365, 0), 1);
        e.due("the month 119", x.ofMonth(119, 0), 3619);
        e.due("the month 120", x.ofMonth(120, 0), NO_SUCH);
        e.sentence("Today is the day 0 at first.");
        e.due("today", x.count(0), 0);
        e.due("the day 0 can be marked", x.mark(0, 0, 0), 1);
        e.due("the day 1 cannot", x.mark(0, 1, 1), NOT_POSSIBLE);
        e.noEdge("Marks, months");
    }

    private void subjects() {
        e.sentence("There are 16 subjects, 0 to 15.");
        FoldedMonths x = new FoldedMonths();
        int[] due = {NO_SUCH, 1, 1, NO_SUCH};
        int[] subjects = {-1, 0, 15, 16};
        for (int i = 0; i < subjects.length; i++) {
            int s = subjects[i];
            e.due("mark(" + s + ", 0, 0)", x.mark(s, 0, 0), due[i]);
            e.due("marks(" + s + ", 0, 0)", x.marks(s, 0, 0), due[i]);
            e.due("isMarked(" + s + ", 0)", x.isMarked(s, 0), due[i]);
            e.due("both(" + s + ", 15, 0, 0)", x.both(s, 15, 0, 0), i == 1 ? 0 : due[i]);
            e.due("both(15, " + s + ", 0, 0)", x.both(15, s, 0, 0), i == 1 ? 0 : due[i]);
            e.due("longest(" + s + ", 0, 0, 0)", x.longest(s, 0, 0, 0), due[i]);
            e.due("nextMark(" + s + ", 0)", x.nextMark(s, 0), i == 1 || i == 2 ? 0 : due[i]);
            e.due("inMonth(" + s + ", 0)", x.inMonth(s, 0), due[i]);
            e.due("clear(" + s + ", 0, 0)", x.clear(s, 0, 0), due[i]);
        }
        for (int s = 0; s < 16; s++) {
            e.due("mark(" + s + ", 0, 0)", x.mark(s, 0, 0), 1);
            e.due("all marks", x.count(8), s + 1);
        }
    }

    private void markedDays() {
        e.sentence("A subject is marked on a day or not (not, at first); only days up to today can be marked.");
        FoldedMonths x = new FoldedMonths();
        for (int s = 0; s < 16; s++) {
            e.due("marks(" + s + ", 0, 3649)", x.marks(s, 0, 3649), 0);
        }
        x.pass(10);
        e.due("mark() of tomorrow", x.mark(0, 11, 11), NOT_POSSIBLE);
        e.due("mark() up to tomorrow", x.mark(0, 10, 11), NOT_POSSIBLE);
        e.due("nothing is marked", x.count(8), 0);
        e.due("mark() of today", x.mark(0, 10, 10), 1);
        e.due("mark() of today again", x.mark(0, 10, 10), 0);
        e.due("marked once", x.count(8), 1);
        x.pass(1);
        e.due("mark() a day later", x.mark(0, 11, 11), 1);
        FoldedMonths y = Diaries.diary(2, 2, 3649);
        e.due("mark() of the last day", y.mark(15, 3649, 3649), 1);
    }

    private void oldMonths() {
        e.sentence("A month is OLD if its number and KEEP together are at most that of the month of today");
        FoldedMonths calendar = new FoldedMonths();
        for (int keep = 1; keep <= 12; keep++) {
            int first = calendar.ofMonth(keep, 0);
            FoldedMonths x = Diaries.diary(keep, 2, first - 1);
            e.due("KEEP " + keep + ", the last day of the month " + (keep - 1), x.ofMonth(0, 2), 0);
            e.due("OLD months", x.count(2), 0);
            x.pass(1);
            e.due("KEEP " + keep + ", the first day of the month " + keep, x.ofMonth(0, 2), 1);
            e.due("the month 1", x.ofMonth(1, 2), 0);
            e.due("OLD months", x.count(2), 1);
        }
        e.sentence("(so the month of today and KEEP - 1 months ahead of it are young, and all later ones).");
        FoldedMonths x = Diaries.diary(3, 2, 365);
        for (int month = 0; month < 120; month++) {
            e.due("KEEP 3 in the month 12: whether " + month + " is OLD", x.ofMonth(month, 2), month <= 9 ? 1 : 0);
        }
        FoldedMonths y = Diaries.diary(12, 2, 3649);
        e.due("KEEP 12 on the last day: 107", y.ofMonth(107, 2), 1);
        e.due("KEEP 12 on the last day: 108", y.ofMonth(108, 2), 0);
        e.due("KEEP 12 on the last day: OLD months", y.count(2), 108);
        FoldedMonths z = Diaries.diary(1, 2, 3649);
        e.due("KEEP 1 on the last day: 118", z.ofMonth(118, 2), 1);
        e.due("KEEP 1 on the last day: 119", z.ofMonth(119, 2), 0);
        e.due("KEEP 1 on the last day: OLD months", z.count(2), 119);
    }

    private void plainMonths() {
        e.sentence("A young month is PLAIN.");
        FoldedMonths x = Diaries.diary(2, 2, 58);
        e.form("without a mark", x, 0, PLAIN, 16, NONE);
        x.mark(0, 0, 0);
        x.mark(0, 31, 31);
        e.form("with a mark", x, 0, PLAIN, 16, NONE);
        e.form("with the same one", x, 1, PLAIN, 16, NONE);
        e.form("the last month", x, 119, PLAIN, 16, NONE);
        e.sentence("An OLD month is folded, or unfolded (PLAIN then, too, but it is one of the unfolded ones).");
        x.pass(1);
        e.form("OLD", x, 0, Edges.RUNS, 2, NONE);
        e.due("OLD: unfolded", x.ofMonth(0, 3), 0);
        e.due("unfolded months", x.count(3), 0);
        x.isMarked(0, 0);
        e.form("OLD, looked at", x, 0, PLAIN, 16, NONE);
        e.due("OLD, looked at: unfolded", x.ofMonth(0, 3), 1);
        e.due("unfolded months", x.count(3), 1);
        x.isMarked(0, 31);
        e.due("young, looked at: unfolded", x.ofMonth(1, 3), 0);
        e.due("unfolded months", x.count(3), 1);
    }
}
