import java.util.Arrays;

/** Answers at the edges that the document names, each told with the sentence that names it. */
final class Edges {
    static final int NO_SUCH = -1, BAD_VALUE = -2, BAD_TEXT = -3, TOO_MANY = -4, NOT_POSSIBLE = -5, NONE = -6;
    static final int KEEP = 0, OPEN = 1;
    static final int EMPTY = 0, SAME = 1, RUNS = 2, PLACES = 3, PLAIN = 4;

    private static final String NO_CHANGE = "A call that returns an error changes nothing.";

    private final Check check = new Check("edges");
    private final Document document = new Document();
    private String chapter = "";
    private String sentence = "";
    private boolean asked = true;

    Edges() throws Exception {
    }

    void chapter(String heading) {
        chapter = heading;
    }

    /** What is due from here on is told by these words of the chapter. */
    void sentence(String words) {
        check.holds("something is asked for the sentence: " + sentence, asked);
        asked = false;
        sentence = words;
        check.holds("the chapter \"" + chapter + "\" holds: " + words, document.name(chapter, words));
    }

    /** Words that name no boundary: what they say is tested by the other tests, or is nothing to be tested. */
    void noEdge(String words) {
        check.holds("the chapter \"" + chapter + "\" holds: " + words, document.name(chapter, words));
    }

    void due(String call, long got, long want) {
        asked = true;
        check.due(told(sentence, call), got, want);
    }

    private String told(String words, String call) {
        return chapter + ", \"" + words + "\": " + call;
    }

    /** A call that answers an error: the answer, and that all is as if it had not been made. */
    void refused(String call, Story before, Call refused, int error) {
        due(call, refused.of(State.told(before)), error);
        Story after = x -> {
            before.tell(x);
            refused.of(x);
        };
        check.holds(told(NO_CHANGE, call), Arrays.equals(State.of(before), State.of(after)));
    }

    /** Two runs of calls after which all answers are the same. */
    void alike(String what, Story one, Story other) {
        due(what, Arrays.equals(State.of(one), State.of(other)) ? 1 : 0, 1);
    }

    void different(String what, Story one, Story other) {
        due(what, Arrays.equals(State.of(one), State.of(other)) ? 1 : 0, 0);
    }

    void row(String when, FoldedMonths x, int... months) {
        due(when + ": unfolded months", x.count(3), months.length);
        for (int place = 0; place < months.length; place++) {
            due(when + ": the place of the month " + months[place], x.ofMonth(months[place], 9), place);
        }
    }

    void counts(String when, FoldedMonths x, int work, int unfolded, int folded) {
        due(when + ": the work", x.count(5), work);
        due(when + ": how often a month was unfolded", x.count(6), unfolded);
        due(when + ": how often a month was folded", x.count(7), folded);
    }

    void form(String when, FoldedMonths x, int month, int form, int size, int named) {
        due(when + ": the form of the month " + month, x.ofMonth(month, 4), form);
        due(when + ": the size of the month " + month, x.ofMonth(month, 5), size);
        due(when + ": what the month " + month + " names", x.ofMonth(month, 6), named);
    }

    void end() {
        check.holds("something is asked for the sentence: " + sentence, asked);
        for (String piece : document.unnamed()) {
            check.holds("the document is named whole, but for " + piece, false);
        }
        check.end();
    }
}
