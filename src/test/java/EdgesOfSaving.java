/** The edges of the promises 24 to 26. */
final class EdgesOfSaving {
    private static final int BAD_VALUE = -2, NOT_POSSIBLE = -5, NONE = -6;
    private static final int KEEP = 0, OPEN = 1, SAME = 1, RUNS = 2;
    private static final int LEAST = Integer.MIN_VALUE, MOST = Integer.MAX_VALUE;
    private static final int[] NO_SLOTS = {LEAST, -32, -1, 2, 31, 32, 33, MOST};
    private static final Story BUSY = Diaries::busy;

    private final Edges e;

    private EdgesOfSaving(Edges e) {
        this.e = e;
    }

    static void test(Edges e) {
        EdgesOfSaving edges = new EdgesOfSaving(e);
        edges.undo();
        edges.everythingExcept();
        edges.history();
        edges.recorded();
        edges.orders();
        edges.undoOfNothing();
        edges.save();
        edges.saveErrors();
        edges.restore();
        edges.restoreErrors();
    }

    private static Story after(Story story, Call... calls) {
        return x -> {
            story.tell(x);
            for (Call call : calls) {
                call.of(x);
            }
        };
    }

    /** Only a few changes can be undone: two slots are saved, the pad holds a text, months are unfolded and name one another. */
    private static void some(FoldedMonths x) {
        x.set(KEEP, 1);
        x.pass(120);
        x.save(1);
        Diaries.put(x, "p3;ma:0");
        x.mark(0, 0, 0);
        x.mark(0, 31, 95);
        x.save(0);
        x.isMarked(0, 0);
    }

    private void undo() {
        e.chapter("Promise 24: undo");
        e.sentence("int undo(): Undoes the latest change:");
        Story some = EdgesOfSaving::some;
        e.alike("set(OPEN, 0)", some, after(some, x -> x.set(OPEN, 0), x -> x.undo()));
        e.alike("set(OPEN, 6)", some, after(some, x -> x.set(OPEN, 6), x -> x.undo()));
        e.alike("pass(1)", some, after(some, x -> x.pass(1), x -> x.undo()));
        e.alike("pass(400)", some, after(some, x -> x.pass(400), x -> x.undo()));
        e.alike("mark(3, 0, 120)", some, after(some, x -> x.mark(3, 0, 120), x -> x.undo()));
        e.alike("mark(0, 0, 0), where nothing is different", some, after(some, x -> x.mark(0, 0, 0), x -> x.undo()));
        e.alike("clear(0, 0, 120)", some, after(some, x -> x.clear(0, 0, 120), x -> x.undo()));
        e.alike("restore(0)", some, after(some, x -> x.restore(0), x -> x.undo()));
        e.alike("restore(1)", some, after(some, x -> x.restore(1), x -> x.undo()));
        e.alike("two changes", some, after(some, x -> x.pass(1), x -> x.mark(1, 0, 121), x -> x.undo(), x -> x.undo()));
        e.alike("a change, and questions behind it", some, after(some, x -> x.pass(1), x -> x.both(0, 1, 0, 121), x -> x.undo()));
        e.alike("only the latest of two", after(some, x -> x.pass(1)),
            after(some, x -> x.pass(1), x -> x.clear(0, 0, 120), x -> x.undo()));
        FoldedMonths y = new FoldedMonths();
        y.set(KEEP, 12);
        y.undo();
        e.due("KEEP", y.count(9), 2);
    }

    private void everythingExcept() {
        e.sentence("everything except the pad, the slots and the history is as it was before it (also the row of unfolded months and "
            + "the work).");
        FoldedMonths x = Diaries.fourOld(2);
        x.mark(0, 0, 0);
        x.mark(0, 31, 31);
        x.isMarked(0, 0);
        e.row("the row", x, 1, 0);
        Diaries.put(x, "p1");
        x.clear(0, 0, 119);
        e.row("another row", x, 0, 1);
        Diaries.put(x, "2");
        x.save(0);
        x.save(1);
        x.both(0, 1, 0, 119);
        x.undo();
        e.row("the row as before", x, 1, 0);
        e.counts("the work as before", x, 0, 2, 4);
        e.due("marks", x.count(8), 2);
        e.due("the pad is as it is", x.count(11), 3);
        e.due("the pad holds what was put behind the change", x.carryOut(), 1);
        e.due("p12", x.count(0), 132);
        e.due("the slot 0 is as it is", x.restore(0), 120);
        e.due("without marks", x.count(8), 0);
        e.due("the slot 1 is as it is", x.restore(1), 120);
        FoldedMonths y = Diaries.fourOld(2);
        Diaries.put(y, "ma:0");
        y.carryOut();
        y.undo();
        e.due("a pad that was emptied stays empty", y.count(11), 0);
        e.due("the mark is undone", y.count(8), 0);
        FoldedMonths z = Diaries.fourOld(0);
        z.mark(0, 0, 0);
        z.mark(0, 31, 31);
        z.mark(0, 1, 1);
        e.form("folded anew", z, 1, RUNS, 2, NONE);
        z.undo();
        e.form("it names the month 0 as before", z, 1, SAME, 1, 0);
        e.form("which is folded as before", z, 0, RUNS, 2, NONE);
    }

    private void history() {
        e.sentence("A history of at most 6 states is kept:");
        for (int changes = 0; changes <= 8; changes++) {
            FoldedMonths x = new FoldedMonths();
            for (int i = 1; i <= changes; i++) {
                x.pass(1);
                e.due("after the change " + i, x.count(12), Math.min(6, i));
            }
            for (int left = Math.min(6, changes) - 1; left >= 0; left--) {
                e.due(changes + " changes, undo()", x.undo(), left);
                e.due("today", x.count(0), changes - Math.min(6, changes) + left);
            }
            e.due(changes + " changes, nothing is left", x.undo(), NOT_POSSIBLE);
            e.due("today", x.count(0), Math.max(0, changes - 6));
        }
    }

    private void recorded() {
        e.sentence("each method that is a change, and returns no error, records the state before it (also if nothing is different then);");
        Call[] changes = {x -> x.set(KEEP, 2), x -> x.set(OPEN, 2), x -> x.pass(1), x -> x.mark(0, 0, 0), x -> x.clear(0, 0, 0),
            x -> x.carryOut(), x -> x.restore(0)};
        for (int i = 0; i < changes.length; i++) {
            FoldedMonths x = new FoldedMonths();
            Diaries.put(x, "p0");
            x.save(0);
            e.due("the change " + i + " is no error", changes[i].of(x) >= 0 ? 1 : 0, 1);
            e.due("the change " + i + " is recorded", x.count(12), 1);
            e.due("and undone", x.undo(), 0);
        }
        Call[] errors = {x -> x.set(KEEP, 13), x -> x.set(OPEN, 7), x -> x.pass(0), x -> x.mark(0, 0, 1), x -> x.clear(0, 0, 1),
            x -> x.carryOut(), x -> x.restore(0), x -> x.undo(), x -> x.put(0), x -> x.save(2)};
        Call[] others = {x -> x.marks(0, 1, 2), x -> x.isMarked(0, 0), x -> x.both(0, 0, 0, 0), x -> x.crowded(1, 0, 0),
            x -> x.longest(0, 0, 0, 0), x -> x.nextMark(0, 0), x -> x.ofMonth(0, 0), x -> x.inMonth(0, 0), x -> x.dayOf(0, 1, 1),
            x -> x.dateOf(0, 0), x -> x.count(0), x -> x.sizeAs(0, 0), x -> x.workOf(0, 0), x -> x.bestOpen(0, 0), x -> x.put('p'),
            x -> x.wipe(), x -> x.fault(), x -> x.save(0)};
        FoldedMonths y = new FoldedMonths();
        for (int i = 0; i < errors.length; i++) {
            e.due("the error " + i, errors[i].of(y) < 0 ? 1 : 0, 1);
            e.due("the error " + i + " is not recorded", y.count(12), 0);
        }
        for (int i = 0; i < others.length; i++) {
            others[i].of(y);
            e.due("the call " + i + ", which is no change, is not recorded", y.count(12), 0);
        }
        e.sentence("when one more is recorded, the oldest one is dropped.");
        FoldedMonths z = new FoldedMonths();
        z.set(OPEN, 0);
        for (int i = 1; i <= 5; i++) {
            z.pass(i);
        }
        e.due("six", z.count(12), 6);
        z.set(OPEN, 5);
        e.due("six still", z.count(12), 6);
        e.due("the latest one", z.undo(), 5);
        e.due("OPEN as it was", z.count(10), 0);
        for (int left = 4; left >= 0; left--) {
            e.due("undo()", z.undo(), left);
        }
        e.due("the state behind the first change is the oldest one", z.count(10), 0);
        e.due("its day", z.count(0), 0);
        e.due("the state ahead of it was dropped", z.undo(), NOT_POSSIBLE);
        FoldedMonths w = new FoldedMonths();
        for (int i = 1; i <= 20; i++) {
            w.pass(1);
            if (i % 3 == 0) {
                w.undo();
            }
        }
        e.due("20 changes, 6 of them undone", w.count(0), 14);
        for (int left = w.count(12) - 1; left >= 0; left--) {
            int today = w.count(0);
            e.due("undo()", w.undo(), left);
            e.due("a day less", w.count(0), today - 1);
        }
    }

    private void orders() {
        e.sentence("An order of a text records nothing by itself.");
        FoldedMonths x = new FoldedMonths();
        x.pass(1);
        Diaries.put(x, "p1;".repeat(26) + "p1");
        e.due("27 orders", x.carryOut(), 27);
        e.due("one state", x.count(12), 2);
        e.due("the state ahead of all of them", x.undo(), 1);
        e.due("its day", x.count(0), 1);
        e.due("the state ahead of that", x.undo(), 0);
        e.due("its day", x.count(0), 0);
    }

    private void undoOfNothing() {
        e.sentence("Returns how many changes can be undone then;");
        FoldedMonths x = new FoldedMonths();
        for (int i = 0; i < 7; i++) {
            x.pass(1);
        }
        for (int left = 5; left >= 0; left--) {
            e.due("undo()", x.undo(), left);
            e.due("as count(12) tells", x.count(12), left);
        }
        e.sentence("NOT_POSSIBLE if there is none.");
        e.due("undo() behind the last one", x.undo(), NOT_POSSIBLE);
        e.due("and again", x.undo(), NOT_POSSIBLE);
        e.due("today", x.count(0), 1);
        e.refused("undo() at first", Diaries::fresh, y -> y.undo(), NOT_POSSIBLE);
        e.refused("undo() when all is undone", y -> {
            y.pass(1);
            y.undo();
        }, y -> y.undo(), NOT_POSSIBLE);
    }

    private void save() {
        e.chapter("Promise 25: save");
        e.sentence("int save(int slot): Saves everything except the pad, the history and the slots in a slot, and overwrites what was saved "
            + "there.");
        Story some = EdgesOfSaving::some;
        e.alike("saved, left, restored, and all undone", after(some, x -> x.save(0)),
            after(some, x -> x.save(0), x -> x.clear(0, 0, 119), x -> x.restore(0), x -> x.undo(), x -> x.undo()));
        FoldedMonths x = Diaries.fourOld(2);
        x.mark(0, 0, 0);
        x.mark(0, 31, 31);
        e.due("save(0)", x.save(0), 120);
        Diaries.put(x, "p1");
        x.set(OPEN, 0);
        e.due("save(1)", x.save(1), 120);
        x.clear(0, 0, 119);
        int changes = x.count(12);
        e.due("restore(0)", x.restore(0), 120);
        e.row("the row of the slot 0", x, 0, 1);
        e.counts("the work of the slot 0", x, 0, 2, 4);
        e.due("OPEN of the slot 0", x.count(10), 2);
        e.due("the pad is not of the slot", x.count(11), 2);
        e.due("the history is not of the slot", x.count(12), Math.min(6, changes + 1));
        e.due("restore(1)", x.restore(1), 120);
        e.row("the row of the slot 1", x);
        e.due("the work of the slot 1", x.count(5), 3);
        x.clear(0, 0, 0);
        x.save(0);
        x.restore(1);
        e.due("the slot 1 is not overwritten", x.count(8), 2);
        x.restore(0);
        e.due("the slot 0 is overwritten", x.count(8), 1);
        e.sentence("slot: 0 or 1");
        FoldedMonths y = new FoldedMonths();
        e.due("save(-1)", y.save(-1), BAD_VALUE);
        e.due("save(0)", y.save(0), 0);
        e.due("save(1)", y.save(1), 0);
        e.due("save(2)", y.save(2), BAD_VALUE);
        e.due("saving is no change", y.count(12), 0);
    }

    private void saveErrors() {
        e.sentence("Returns today;");
        e.due("the first day", new FoldedMonths().save(1), 0);
        e.due("the last day", Diaries.diary(2, 2, 3649).save(0), 3649);
        e.sentence("BAD_VALUE if there is no such slot.");
        for (int slot : NO_SLOTS) {
            e.refused("save(" + slot + ")", BUSY, x -> x.save(slot), BAD_VALUE);
            e.refused("save(" + slot + "), nothing saved so far", x -> x.pass(1), x -> x.save(slot), BAD_VALUE);
        }
    }

    private void restore() {
        e.chapter("Promise 26: restore");
        e.sentence("int restore(int slot): Restores what was saved last in a slot, which keeps it. This is a change.");
        FoldedMonths x = new FoldedMonths();
        x.pass(1);
        x.save(0);
        x.pass(1);
        x.save(0);
        x.pass(1);
        e.due("what was saved last", x.restore(0), 2);
        e.due("a change", x.count(12), 4);
        e.due("the slot keeps it", x.restore(0), 2);
        e.due("a change, though nothing is different", x.count(12), 5);
        x.mark(0, 0, 2);
        x.set(OPEN, 6);
        e.due("the slot keeps it also when the diary goes on", x.restore(0), 2);
        e.due("without the marks", x.count(8), 0);
        e.due("without the setting", x.count(10), 2);
        e.due("undo()", x.undo(), 5);
        e.due("the marks are there again", x.count(8), 3);
        e.due("the setting is there again", x.count(10), 6);
        FoldedMonths y = Diaries.fourOld(2);
        y.save(1);
        y.undo();
        y.undo();
        y.undo();
        e.due("a state that was undone since", y.restore(1), 120);
        e.due("KEEP", y.count(9), 1);
        e.sentence("slot: 0 or 1");
        FoldedMonths z = new FoldedMonths();
        z.save(0);
        z.pass(1);
        z.save(1);
        z.pass(1);
        e.due("restore(-1)", z.restore(-1), BAD_VALUE);
        e.due("restore(0)", z.restore(0), 0);
        e.due("restore(1)", z.restore(1), 1);
        e.due("restore(2)", z.restore(2), BAD_VALUE);
        e.sentence("Returns today then;");
        e.due("the first day", z.restore(0), 0);
        e.due("today", z.count(0), 0);
        FoldedMonths w = Diaries.diary(2, 2, 3649);
        w.save(1);
        w.undo();
        e.due("the last day", w.restore(1), 3649);
        e.due("today", w.count(0), 3649);
    }

    private void restoreErrors() {
        e.sentence("BAD_VALUE if there is no such slot;");
        for (int slot : NO_SLOTS) {
            e.refused("restore(" + slot + ")", BUSY, x -> x.restore(slot), BAD_VALUE);
            e.refused("restore(" + slot + "), nothing saved so far", x -> x.pass(1), x -> x.restore(slot), BAD_VALUE);
        }
        e.sentence("NOT_POSSIBLE if nothing was saved in it.");
        e.refused("restore(0), nothing saved", x -> x.pass(1), x -> x.restore(0), NOT_POSSIBLE);
        e.refused("restore(1), nothing saved", x -> x.pass(1), x -> x.restore(1), NOT_POSSIBLE);
        e.refused("restore(1), saved in the slot 0", x -> x.save(0), x -> x.restore(1), NOT_POSSIBLE);
        e.refused("restore(0), saved in the slot 1", x -> x.save(1), x -> x.restore(0), NOT_POSSIBLE);
        e.refused("restore(0), an error when it was saved", x -> x.save(2), x -> x.restore(0), NOT_POSSIBLE);
        FoldedMonths y = new FoldedMonths();
        y.save(1);
        e.due("restore(1), saved", y.restore(1), 0);
        y.undo();
        e.due("restore(1), saved ahead of what was undone", y.restore(1), 0);
    }
}
