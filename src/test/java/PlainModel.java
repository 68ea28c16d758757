import java.util.ArrayList;
import java.util.Arrays;
import java.util.List;
import java.util.TreeSet;
import java.util.regex.Matcher;
import java.util.regex.Pattern;

/**
 * The document's promises once more, written as slowly and as near to its words as can be: days and
 * marks one by one, the row as a list, whole copies for undo, the grammar as a regular expression.
 */
final class PlainModel {
    static final int NO_SUCH = -1, BAD_VALUE = -2, BAD_TEXT = -3, TOO_MANY = -4, NOT_POSSIBLE = -5, NONE = -6;
    static final int EMPTY = 0, SAME = 1, RUNS = 2, PLACES = 3, PLAIN = 4;

    private static final int[] LENGTHS = {31, 28, 31, 30, 31, 30, 31, 31, 30, 31, 30, 31};
    private static final int[] MONTH_OF = new int[3650];
    private static final int[] FIRST = new int[121];

    static {
        for (int month = 0; month < 120; month++) {
            FIRST[month + 1] = FIRST[month] + LENGTHS[month % 12];
            Arrays.fill(MONTH_OF, FIRST[month], FIRST[month + 1], month);
        }
    }

    private static final String NUMBER = "(?:0|[1-9][0-9]{0,2}|[12][0-9]{3}|3[0-5][0-9]{2}|36[0-4][0-9])";
    private static final String RANGE = NUMBER + "(?:-" + NUMBER + ")?";
    private static final String ORDER = "(?:[mc][a-p]:" + RANGE + "(?:," + RANGE + ")*|p" + NUMBER + ")";
    private static final Pattern TEXT = Pattern.compile(ORDER + "(?:;" + ORDER + ")*");

    private static final class Month {
        boolean folded;
        int form = PLAIN;
        int names = NONE;
    }

    private static final class State {
        int today;
        int keep = 2;
        int open = 2;
        int work;
        int unfolded;
        int folded;
        boolean[][] marked = new boolean[3650][16];
        Month[] months = new Month[120];
        List<Integer> row = new ArrayList<>();

        State() {
            for (int i = 0; i < 120; i++) {
                months[i] = new Month();
            }
        }

        State twin() {
            State s = new State();
            s.today = today;
            s.keep = keep;
            s.open = open;
            s.work = work;
            s.unfolded = unfolded;
            s.folded = folded;
            for (int d = 0; d < 3650; d++) {
                s.marked[d] = marked[d].clone();
            }
            for (int i = 0; i < 120; i++) {
                s.months[i].folded = months[i].folded;
                s.months[i].form = months[i].form;
                s.months[i].names = months[i].names;
            }
            s.row.addAll(row);
            return s;
        }

        boolean old(int month) {
            return month + keep <= MONTH_OF[today];
        }

        int marksOf(int month) {
            int n = 0;
            for (int d = FIRST[month]; d < FIRST[month + 1]; d++) {
                for (int s = 0; s < 16; s++) {
                    n += marked[d][s] ? 1 : 0;
                }
            }
            return n;
        }

        boolean has(int subject, int month) {
            for (int d = FIRST[month]; d < FIRST[month + 1]; d++) {
                if (marked[d][subject]) {
                    return true;
                }
            }
            return false;
        }

        boolean alike(int a, int b) {
            for (int i = 0; i < 31; i++) {
                for (int s = 0; s < 16; s++) {
                    boolean inA = FIRST[a] + i < FIRST[a + 1] && marked[FIRST[a] + i][s];
                    boolean inB = FIRST[b] + i < FIRST[b + 1] && marked[FIRST[b] + i][s];
                    if (inA != inB) {
                        return false;
                    }
                }
            }
            return true;
        }

        int sameAs(int month, int without) {
            for (int m = 0; m < month; m++) {
                if (m != without && months[m].folded && months[m].form != SAME && alike(m, month)) {
                    return m;
                }
            }
            return NONE;
        }

        int size(int month, int form, int without) {
            if (form == EMPTY) {
                return marksOf(month) == 0 ? 0 : NONE;
            }
            if (form == SAME) {
                return sameAs(month, without) == NONE ? NONE : 1;
            }
            if (form == RUNS) {
                int runs = 0;
                for (int s = 0; s < 16; s++) {
                    for (int d = FIRST[month]; d < FIRST[month + 1]; d++) {
                        if (marked[d][s] && (d == FIRST[month] || !marked[d - 1][s])) {
                            runs++;
                        }
                    }
                }
                return 1 + runs;
            }
            if (form == PLACES) {
                int n = marksOf(month);
                return 1 + n / 3 + (n % 3 == 0 ? 0 : 1);
            }
            return 16;
        }

        int size(int month) {
            Month m = months[month];
            if (!m.folded) {
                return 16;
            }
            return m.form == SAME ? 1 : size(month, m.form, NONE);
        }

        void fold(int month, int without) {
            int form = PLAIN;
            for (int f = PLAIN; f >= EMPTY; f--) {
                int size = size(month, f, without);
                if (size != NONE && size <= size(month, form, without)) {
                    form = f;
                }
            }
            months[month].folded = true;
            months[month].form = form;
            months[month].names = form == SAME ? sameAs(month, without) : NONE;
            work += size(month);
            folded++;
        }

        void unfold(int month) {
            work += size(month);
            unfolded++;
            months[month].folded = false;
            months[month].form = PLAIN;
            months[month].names = NONE;
        }

        void refold() {
            while (row.size() > open) {
                fold(row.get(0), NONE);
                row.remove(0);
            }
        }

        void toTheEnd(int month) {
            row.remove((Integer) month);
            row.add(month);
        }

        void look(int month) {
            if (!old(month) || months[month].folded && months[month].form == EMPTY) {
                return;
            }
            if (months[month].folded) {
                unfold(month);
            }
            toTheEnd(month);
            refold();
        }

        void lookAll(int from, int to) {
            for (int month = MONTH_OF[from]; month <= MONTH_OF[to]; month++) {
                look(month);
            }
        }

        int days(int days) {
            for (int i = 0; i < days; i++) {
                today++;
                for (int month = 0; month < 120; month++) {
                    if (old(month) && !months[month].folded && !row.contains(month)) {
                        fold(month, NONE);
                    }
                }
            }
            return today;
        }

        int write(int subject, int from, int to, boolean value) {
            int different = 0;
            for (int month = MONTH_OF[from]; month <= MONTH_OF[to]; month++) {
                TreeSet<Integer> meant = new TreeSet<>();
                for (int d = Math.max(from, FIRST[month]); d <= to && d < FIRST[month + 1]; d++) {
                    if (marked[d][subject] != value) {
                        meant.add(d);
                    }
                }
                if (meant.isEmpty()) {
                    continue;
                }
                boolean old = old(month);
                if (old) {
                    for (int m = 0; m < 120; m++) {
                        if (months[m].folded && months[m].form == SAME && months[m].names == month) {
                            fold(m, month);
                        }
                    }
                    if (months[month].folded) {
                        unfold(month);
                    }
                }
                for (int d : meant) {
                    marked[d][subject] = value;
                }
                different += meant.size();
                if (old) {
                    toTheEnd(month);
                    refold();
                }
            }
            return different;
        }
    }

    private State now = new State();
    private String pad = "";
    private final List<State> history = new ArrayList<>();
    private final State[] slots = new State[2];

    private void record() {
        history.add(now.twin());
        if (history.size() > 6) {
            history.remove(0);
        }
    }

    private static boolean noSubject(int subject) {
        return subject < 0 || subject > 15;
    }

    private static boolean noDay(int day) {
        return day < 0 || day > 3649;
    }

    int set(int setting, int value) {
        if (setting != 0 && setting != 1 || setting == 0 && (value < 1 || value > 12)
                || setting == 1 && (value < 0 || value > 6)) {
            return BAD_VALUE;
        }
        if (setting == 0 && now.today != 0) {
            return NOT_POSSIBLE;
        }
        record();
        int before = setting == 0 ? now.keep : now.open;
        if (setting == 0) {
            now.keep = value;
        } else {
            now.open = value;
            now.refold();
        }
        return before;
    }

    private int tryPass(int days, boolean recorded) {
        if (days < 1 || days > 400) {
            return BAD_VALUE;
        }
        if (now.today + days > 3649) {
            return TOO_MANY;
        }
        if (recorded) {
            record();
        }
        return now.days(days);
    }

    private int tryWrite(int subject, int from, int to, boolean value, boolean recorded) {
        if (noSubject(subject) || noDay(from) || noDay(to)) {
            return NO_SUCH;
        }
        if (to < from) {
            return BAD_VALUE;
        }
        if (to > now.today) {
            return NOT_POSSIBLE;
        }
        if (recorded) {
            record();
        }
        return now.write(subject, from, to, value);
    }

    int pass(int days) {
        return tryPass(days, true);
    }

    int mark(int subject, int from, int to) {
        return tryWrite(subject, from, to, true, true);
    }

    int clear(int subject, int from, int to) {
        return tryWrite(subject, from, to, false, true);
    }

    int marks(int subject, int from, int to) {
        if (noSubject(subject) || noDay(from) || noDay(to)) {
            return NO_SUCH;
        }
        if (to < from) {
            return BAD_VALUE;
        }
        int a = MONTH_OF[from];
        int b = MONTH_OF[to];
        boolean firstWhole = from == FIRST[a] && to >= FIRST[a + 1] - 1;
        boolean lastWhole = to == FIRST[b + 1] - 1 && from <= FIRST[b];
        if (!firstWhole) {
            now.look(a);
        }
        if (b != a && !lastWhole) {
            now.look(b);
        }
        int n = 0;
        for (int d = from; d <= to; d++) {
            n += now.marked[d][subject] ? 1 : 0;
        }
        return n;
    }

    int isMarked(int subject, int day) {
        if (noSubject(subject) || noDay(day)) {
            return NO_SUCH;
        }
        now.look(MONTH_OF[day]);
        return now.marked[day][subject] ? 1 : 0;
    }

    int both(int subject, int other, int from, int to) {
        if (noSubject(subject) || noSubject(other) || noDay(from) || noDay(to)) {
            return NO_SUCH;
        }
        if (to < from) {
            return BAD_VALUE;
        }
        now.lookAll(from, to);
        int n = 0;
        for (int d = from; d <= to; d++) {
            n += now.marked[d][subject] && now.marked[d][other] ? 1 : 0;
        }
        return n;
    }

    int crowded(int least, int from, int to) {
        if (noDay(from) || noDay(to)) {
            return NO_SUCH;
        }
        if (to < from || least < 1 || least > 16) {
            return BAD_VALUE;
        }
        now.lookAll(from, to);
        int n = 0;
        for (int d = from; d <= to; d++) {
            int subjects = 0;
            for (boolean m : now.marked[d]) {
                subjects += m ? 1 : 0;
            }
            n += subjects >= least ? 1 : 0;
        }
        return n;
    }

    int longest(int subject, int from, int to, int what) {
        if (noSubject(subject) || noDay(from) || noDay(to)) {
            return NO_SUCH;
        }
        if (what < 0 || what > 1 || to < from) {
            return BAD_VALUE;
        }
        for (int month = MONTH_OF[from]; month <= MONTH_OF[to]; month++) {
            if (now.has(subject, month)) {
                now.look(month);
            }
        }
        int best = 0;
        int first = NONE;
        for (int d = from; d <= to; d++) {
            int e = d;
            while (e <= to && now.marked[e][subject]) {
                e++;
            }
            if (e - d > best) {
                best = e - d;
                first = d;
            }
        }
        return what == 0 ? best : first;
    }

    int nextMark(int subject, int day) {
        if (noSubject(subject) || noDay(day)) {
            return NO_SUCH;
        }
        int found = NONE;
        for (int d = 3649; d >= day; d--) {
            if (now.marked[d][subject]) {
                found = d;
            }
        }
        int last = found == NONE ? 119 : MONTH_OF[found];
        for (int month = MONTH_OF[day]; month <= last; month++) {
            if (now.has(subject, month)) {
                now.look(month);
            }
        }
        return found;
    }

    int ofMonth(int month, int what) {
        if (month < 0 || month > 119) {
            return NO_SUCH;
        }
        if (what < 0 || what > 9) {
            return BAD_VALUE;
        }
        int subjects = 0;
        for (int s = 15; s >= 0; s--) {
            subjects = subjects * 2 + (now.has(s, month) ? 1 : 0);
        }
        int place = now.row.indexOf(month);
        int[] all = {FIRST[month], LENGTHS[month % 12], now.old(month) ? 1 : 0, place < 0 ? 0 : 1,
            now.months[month].form, now.size(month), now.months[month].names, now.marksOf(month), subjects,
            place < 0 ? NONE : place};
        return all[what];
    }

    int inMonth(int subject, int month) {
        if (noSubject(subject) || month < 0 || month > 119) {
            return NO_SUCH;
        }
        int n = 0;
        for (int d = FIRST[month]; d < FIRST[month + 1]; d++) {
            n += now.marked[d][subject] ? 1 : 0;
        }
        return n;
    }

    int dayOf(int year, int month, int day) {
        for (int d = 0; d < 3650; d++) {
            if (dateOf(d, 0) == year && dateOf(d, 1) == month && dateOf(d, 2) == day) {
                return d;
            }
        }
        return NO_SUCH;
    }

    int dateOf(int day, int what) {
        if (noDay(day)) {
            return NO_SUCH;
        }
        if (what < 0 || what > 3) {
            return BAD_VALUE;
        }
        int month = MONTH_OF[day];
        int[] all = {month / 12, month % 12 + 1, day - FIRST[month] + 1, month};
        return all[what];
    }

    int count(int what) {
        if (what < 0 || what > 12) {
            return BAD_VALUE;
        }
        int old = 0;
        int sizes = 0;
        int marks = 0;
        for (int month = 0; month < 120; month++) {
            old += now.old(month) ? 1 : 0;
            sizes += month <= MONTH_OF[now.today] ? now.size(month) : 0;
            marks += now.marksOf(month);
        }
        int[] all = {now.today, MONTH_OF[now.today], old, now.row.size(), sizes, now.work, now.unfolded,
            now.folded, marks, now.keep, now.open, pad.length(), history.size()};
        return all[what];
    }

    int sizeAs(int month, int form) {
        if (month < 0 || month > 119) {
            return NO_SUCH;
        }
        return form < 0 || form > 4 ? BAD_VALUE : now.size(month, form, NONE);
    }

    int workOf(int from, int to) {
        if (noDay(from) || noDay(to)) {
            return NO_SUCH;
        }
        if (to < from) {
            return BAD_VALUE;
        }
        State s = now.twin();
        s.lookAll(from, to);
        return s.work - now.work;
    }

    int bestOpen(int from, int to) {
        if (noDay(from) || noDay(to)) {
            return NO_SUCH;
        }
        if (to < from) {
            return BAD_VALUE;
        }
        int best = 6;
        int least = Integer.MAX_VALUE;
        for (int open = 6; open >= 0; open--) {
            State s = now.twin();
            s.open = open;
            s.refold();
            s.lookAll(from, to);
            s.lookAll(from, to);
            if (s.work <= least) {
                least = s.work;
                best = open;
            }
        }
        return best;
    }

    int put(long characters) {
        StringBuilder text = new StringBuilder();
        boolean ended = false;
        boolean bad = false;
        for (int i = 0; i < 8; i++) {
            int code = (int) (characters >>> 8 * i) & 255;
            if (code == 0) {
                ended = true;
            } else {
                bad |= ended || code < 33 || code > 126;
                text.insert(0, (char) code);
            }
        }
        if (bad || text.length() == 0) {
            return BAD_VALUE;
        }
        if (pad.length() + text.length() > 80) {
            return TOO_MANY;
        }
        pad += text;
        return pad.length();
    }

    int wipe() {
        int n = pad.length();
        pad = "";
        return n;
    }

    int fault() {
        for (int i = 1; i <= pad.length(); i++) {
            Matcher matcher = TEXT.matcher(pad.substring(0, i));
            if (!matcher.matches() && !matcher.hitEnd()) {
                return i - 1;
            }
        }
        return TEXT.matcher(pad).matches() ? NONE : pad.length();
    }

    int carryOut() {
        if (fault() != NONE) {
            return BAD_TEXT;
        }
        record();
        int whole = 0;
        for (String order : pad.split(";")) {
            if (!carried(order)) {
                break;
            }
            whole++;
        }
        pad = "";
        return whole;
    }

    private boolean carried(String order) {
        if (order.charAt(0) == 'p') {
            return tryPass(Integer.parseInt(order.substring(1)), false) >= 0;
        }
        for (String range : order.substring(3).split(",")) {
            String[] ends = range.split("-");
            int from = Integer.parseInt(ends[0]);
            int to = Integer.parseInt(ends[ends.length - 1]);
            if (tryWrite(order.charAt(1) - 'a', from, to, order.charAt(0) == 'm', false) < 0) {
                return false;
            }
        }
        return true;
    }

    int undo() {
        if (history.isEmpty()) {
            return NOT_POSSIBLE;
        }
        now = history.remove(history.size() - 1);
        return history.size();
    }

    int save(int slot) {
        if (slot < 0 || slot > 1) {
            return BAD_VALUE;
        }
        slots[slot] = now.twin();
        return now.today;
    }

    int restore(int slot) {
        if (slot < 0 || slot > 1) {
            return BAD_VALUE;
        }
        if (slots[slot] == null) {
            return NOT_POSSIBLE;
        }
        record();
        now = slots[slot].twin();
        return now.today;
    }
}
