/** All that can be asked of a diary after a run of calls; each object is asked no more than 512 times. */
final class State {
    private static final int MONTHS = 120, MONTHS_AN_OBJECT = 50;

    private final Story story;
    private int[] answers = new int[2000];
    private int length;

    private State(Story story) {
        this.story = story;
    }

    static FoldedMonths told(Story story) {
        FoldedMonths x = new FoldedMonths();
        story.tell(x);
        return x;
    }

    static int[] of(Story story) {
        State state = new State(story);
        state.history();
        for (int month = 0; month < MONTHS; month += MONTHS_AN_OBJECT) {
            state.months(month, Math.min(MONTHS, month + MONTHS_AN_OBJECT));
        }
        state.subjects();
        state.days();
        state.slot(0);
        state.slot(1);
        state.pad();
        return java.util.Arrays.copyOf(state.answers, state.length);
    }

    private void add(int answer) {
        answers[length++] = answer;
    }

    private void counts(FoldedMonths x) {
        for (int what = 0; what <= 12; what++) {
            add(x.count(what));
        }
    }

    private void history() {
        FoldedMonths x = told(story);
        counts(x);
        for (int i = 0; i < 7; i++) {
            add(x.undo());
            counts(x);
        }
    }

    private void months(int from, int end) {
        FoldedMonths x = told(story);
        for (int month = from; month < end; month++) {
            for (int what = 2; what <= 9; what++) {
                add(x.ofMonth(month, what));
            }
        }
    }

    private void subjects() {
        FoldedMonths x = told(story);
        for (int subject = 0; subject < 16; subject++) {
            for (int month = 0; month < 6; month++) {
                add(x.inMonth(subject, month));
            }
        }
    }

    private void days() {
        FoldedMonths x = told(story);
        for (int day = 0; day < 135; day++) {
            add(x.isMarked(0, day));
            add(x.isMarked(1, day));
            add(x.isMarked(15, day));
        }
    }

    private void slot(int slot) {
        FoldedMonths x = told(story);
        add(x.restore(slot));
        counts(x);
        for (int month = 0; month < 6; month++) {
            for (int what = 2; what <= 9; what++) {
                add(x.ofMonth(month, what));
            }
        }
    }

    private void pad() {
        FoldedMonths x = told(story);
        add(x.fault());
        add(x.carryOut());
        counts(x);
        for (int month = 0; month < 6; month++) {
            add(x.ofMonth(month, 7));
            add(x.ofMonth(month, 8));
        }
    }
}
