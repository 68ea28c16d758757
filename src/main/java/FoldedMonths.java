/**
 * A diary of marks, day by day for sixteen subjects, whose old months are folded.
 *
 * Every public method looks at its arguments first, and only then changes anything; the states
 * that undo and the slots need are made with the object and written over from then on.
 */
public final class FoldedMonths {
    public static final int NO_SUCH = -1, BAD_VALUE = -2, BAD_TEXT = -3, TOO_MANY = -4, NOT_POSSIBLE = -5, NONE = -6;
    public static final int KEEP = 0, OPEN = 1;
    public static final int EMPTY = 0, SAME = 1, RUNS = 2, PLACES = 3, PLAIN = 4;

    private static final int SUBJECTS = 16, YEARS = 10, MONTHS = 120, DAYS = 3650;
    private static final int MONTHS_OF_YEAR = 12, DAYS_OF_YEAR = 365, LONGEST_MONTH = 31;
    private static final int LEAST_KEEP = 1, MOST_KEEP = 12, FIRST_KEEP = 2;
    private static final int MOST_OPEN = 6, FIRST_OPEN = 2;
    private static final int MOST_DAYS_TO_PASS = 400, LAST_DAY = 3649;
    private static final int PLAIN_WORDS = 16, MARKS_A_WORD = 3;
    private static final int HISTORY = 6, SLOTS = 2;
    private static final int PAD = 80, CHARACTERS_AT_ONCE = 8, FIRST_SIGN = 33, LAST_SIGN = 126;

    // A text of 80 signs holds at most 39 ranges ("ma:0,0,..") or 27 orders of another kind.
    private static final int STEPS = 40;

    // OPEN months, and the one that has just been unfolded.
    private static final int ROW = MOST_OPEN + 1;

    private static final int NO_ERROR = 0;
    private static final int NOT_FOLDED = 5;
    private static final int NO_NUMBER = -1;
    private static final char NO_SIGN = 0;

    private static final int[] MONTH_STARTS = {0, 31, 59, 90, 120, 151, 181, 212, 243, 273, 304, 334, 365};

    private final Diary diary;
    private final Diary trial;
    private final Diary[] history;
    private final Diary[] slots;
    private final Pad pad;
    private int historyLength;
    private int savedSlots;

    public FoldedMonths() {
        diary = new Diary();
        trial = new Diary();
        history = new Diary[HISTORY];
        for (int i = 0; i < history.length; i++) {
            history[i] = new Diary();
        }
        slots = new Diary[SLOTS];
        for (int i = 0; i < slots.length; i++) {
            slots[i] = new Diary();
        }
        pad = new Pad();
    }

    // ---- changes

    public int set(int setting, int value) {
        if (setting == KEEP) {
            return changeKeep(value);
        }
        if (setting == OPEN) {
            return changeOpen(value);
        }
        return BAD_VALUE;
    }

    private int changeKeep(int value) {
        if (value < LEAST_KEEP || value > MOST_KEEP) {
            return BAD_VALUE;
        }
        if (diary.today != 0) {
            return NOT_POSSIBLE;
        }
        record();
        int previous = diary.keep;
        diary.keep = value;
        return previous;
    }

    private int changeOpen(int value) {
        if (value < 0 || value > MOST_OPEN) {
            return BAD_VALUE;
        }
        record();
        int previous = diary.open;
        diary.open = value;
        diary.foldSurplus();
        return previous;
    }

    public int pass(int days) {
        int error = passError(days);
        if (error != NO_ERROR) {
            return error;
        }
        record();
        return diary.advance(days);
    }

    public int mark(int subject, int from, int to) {
        return changeDays(subject, from, to, true);
    }

    public int clear(int subject, int from, int to) {
        return changeDays(subject, from, to, false);
    }

    private int changeDays(int subject, int from, int to, boolean marked) {
        int error = changeError(subject, from, to);
        if (error != NO_ERROR) {
            return error;
        }
        record();
        return diary.writeDays(subject, from, to, marked);
    }

    // ---- questions, which look at months

    public int marks(int subject, int from, int to) {
        int error = subjectSpanError(subject, from, to);
        if (error != NO_ERROR) {
            return error;
        }
        int total = 0;
        int last = monthOf(to);
        for (int month = monthOf(from); month <= last; month++) {
            int meant = daysMeant(month, from, to);
            if (meant != allDays(month)) {
                diary.lookAt(month);
            }
            total += Integer.bitCount(diary.bitsOf(subject, month) & meant);
        }
        return total;
    }

    public int isMarked(int subject, int day) {
        if (!isSubject(subject) || !isDay(day)) {
            return NO_SUCH;
        }
        int month = monthOf(day);
        diary.lookAt(month);
        return isBitSet(diary.bitsOf(subject, month), day - firstDayOf(month)) ? 1 : 0;
    }

    public int both(int subject, int other, int from, int to) {
        if (!isSubject(other)) {
            return NO_SUCH;
        }
        int error = subjectSpanError(subject, from, to);
        if (error != NO_ERROR) {
            return error;
        }
        diary.lookAtMonths(from, to);
        int total = 0;
        int last = monthOf(to);
        for (int month = monthOf(from); month <= last; month++) {
            int shared = diary.bitsOf(subject, month) & diary.bitsOf(other, month);
            total += Integer.bitCount(shared & daysMeant(month, from, to));
        }
        return total;
    }

    public int crowded(int least, int from, int to) {
        int error = spanError(from, to);
        if (error != NO_ERROR) {
            return error;
        }
        if (least < 1 || least > SUBJECTS) {
            return BAD_VALUE;
        }
        diary.lookAtMonths(from, to);
        int total = 0;
        int last = monthOf(to);
        for (int month = monthOf(from); month <= last; month++) {
            total += diary.crowdedDays(least, month, daysMeant(month, from, to));
        }
        return total;
    }

    public int longest(int subject, int from, int to, int what) {
        int error = subjectSpanError(subject, from, to);
        if (error != NO_ERROR) {
            return error;
        }
        if (what != 0 && what != 1) {
            return BAD_VALUE;
        }
        diary.lookAtMarkedMonths(subject, from, to);
        int length = 0;
        int best = 0;
        int bestFirst = NONE;
        for (int day = from; day <= to; day++) {
            length = diary.isMarkedOn(subject, day) ? length + 1 : 0;
            if (length > best) {
                best = length;
                bestFirst = day - length + 1;
            }
        }
        return what == 0 ? best : bestFirst;
    }

    public int nextMark(int subject, int day) {
        if (!isSubject(subject) || !isDay(day)) {
            return NO_SUCH;
        }
        for (int month = monthOf(day); month < MONTHS; month++) {
            if (diary.bitsOf(subject, month) != 0) {
                diary.lookAt(month);
                int end = firstDayOf(month) + daysOf(month);
                for (int next = Math.max(day, firstDayOf(month)); next < end; next++) {
                    if (diary.isMarkedOn(subject, next)) {
                        return next;
                    }
                }
            }
        }
        return NONE;
    }

    // ---- what there is

    public int ofMonth(int month, int what) {
        if (!isMonth(month)) {
            return NO_SUCH;
        }
        switch (what) {
            case 0: return firstDayOf(month);
            case 1: return daysOf(month);
            case 2: return diary.isOld(month) ? 1 : 0;
            case 3: return diary.placeInRow(month) == NONE ? 0 : 1;
            case 4: return diary.formOf(month) == NOT_FOLDED ? PLAIN : diary.formOf(month);
            case 5: return diary.sizeOf(month);
            case 6: return diary.namedBy(month);
            case 7: return diary.marksIn(month);
            case 8: return diary.subjectsIn(month);
            case 9: return diary.placeInRow(month);
            default: return BAD_VALUE;
        }
    }

    public int inMonth(int subject, int month) {
        if (!isSubject(subject) || !isMonth(month)) {
            return NO_SUCH;
        }
        return Integer.bitCount(diary.bitsOf(subject, month));
    }

    public int dayOf(int year, int month, int day) {
        if (year < 0 || year >= YEARS || month < 1 || month > MONTHS_OF_YEAR) {
            return NO_SUCH;
        }
        int through = year * MONTHS_OF_YEAR + month - 1;
        if (day < 1 || day > daysOf(through)) {
            return NO_SUCH;
        }
        return firstDayOf(through) + day - 1;
    }

    public int dateOf(int day, int what) {
        if (!isDay(day)) {
            return NO_SUCH;
        }
        int month = monthOf(day);
        switch (what) {
            case 0: return day / DAYS_OF_YEAR;
            case 1: return month % MONTHS_OF_YEAR + 1;
            case 2: return day - firstDayOf(month) + 1;
            case 3: return month;
            default: return BAD_VALUE;
        }
    }

    public int count(int what) {
        switch (what) {
            case 0: return diary.today;
            case 1: return monthOf(diary.today);
            case 2: return diary.oldMonths();
            case 3: return diary.rowLength;
            case 4: return diary.allSizes();
            case 5: return diary.work;
            case 6: return diary.unfoldings;
            case 7: return diary.foldings;
            case 8: return diary.allMarks();
            case 9: return diary.keep;
            case 10: return diary.open;
            case 11: return pad.length;
            case 12: return historyLength;
            default: return BAD_VALUE;
        }
    }

    // ---- what if

    public int sizeAs(int month, int form) {
        if (!isMonth(month)) {
            return NO_SUCH;
        }
        if (form < EMPTY || form > PLAIN) {
            return BAD_VALUE;
        }
        return diary.sizeIn(month, form, diary.twinOf(month, NONE));
    }

    public int workOf(int from, int to) {
        int error = spanError(from, to);
        if (error != NO_ERROR) {
            return error;
        }
        copy(diary, trial);
        trial.lookAtMonths(from, to);
        return trial.work - diary.work;
    }

    public int bestOpen(int from, int to) {
        int error = spanError(from, to);
        if (error != NO_ERROR) {
            return error;
        }
        int best = 0;
        int least = 0;
        for (int open = 0; open <= MOST_OPEN; open++) {
            copy(diary, trial);
            trial.open = open;
            trial.foldSurplus();
            trial.lookAtMonths(from, to);
            trial.lookAtMonths(from, to);
            int work = trial.work - diary.work;
            if (open == 0 || work < least) {
                least = work;
                best = open;
            }
        }
        return best;
    }

    // ---- texts

    public int put(long characters) {
        int amount = charactersIn(characters);
        if (amount == 0) {
            return BAD_VALUE;
        }
        if (pad.length + amount > PAD) {
            return TOO_MANY;
        }
        pad.append(characters, amount);
        return pad.length;
    }

    public int wipe() {
        int previous = pad.length;
        pad.length = 0;
        return previous;
    }

    public int fault() {
        return pad.readAll();
    }

    public int carryOut() {
        if (pad.readAll() != NONE) {
            return BAD_TEXT;
        }
        record();
        int whole = pad.orders;
        for (int i = 0; i < pad.stepsRead; i++) {
            Step step = pad.stepAt(i);
            if (step != null && carryStep(step) < 0) {
                whole = step.order;
                break;
            }
        }
        pad.length = 0;
        return whole;
    }

    /** Carries one step out without a record of its own; returns an error, or no negative number. */
    private int carryStep(Step step) {
        if (step.kind == 'p') {
            int error = passError(step.from);
            return error == NO_ERROR ? diary.advance(step.from) : error;
        }
        int error = changeError(step.subject, step.from, step.to);
        if (error != NO_ERROR) {
            return error;
        }
        return diary.writeDays(step.subject, step.from, step.to, step.kind == 'm');
    }

    // ---- undo, saving

    public int undo() {
        if (historyLength <= 0) {
            return NOT_POSSIBLE;
        }
        historyLength--;
        copy(stateAt(history, historyLength), diary);
        return historyLength;
    }

    public int save(int slot) {
        if (slot < 0 || slot >= SLOTS) {
            return BAD_VALUE;
        }
        copy(diary, stateAt(slots, slot));
        savedSlots |= 1 << slot;
        return diary.today;
    }

    public int restore(int slot) {
        if (slot < 0 || slot >= SLOTS) {
            return BAD_VALUE;
        }
        if (!isBitSet(savedSlots, slot)) {
            return NOT_POSSIBLE;
        }
        record();
        copy(stateAt(slots, slot), diary);
        return diary.today;
    }

    private void record() {
        if (historyLength >= HISTORY) {
            moveOldestToTheEnd();
            historyLength--;
        }
        copy(diary, stateAt(history, historyLength));
        historyLength++;
    }

    /** The oldest state is the one to be written over next. */
    private void moveOldestToTheEnd() {
        for (int i = 1; i < history.length; i++) {
            Diary oldest = history[i - 1];
            history[i - 1] = history[i];
            history[i] = oldest;
        }
    }

    private static Diary stateAt(Diary[] states, int place) {
        return place >= 0 && place < states.length ? states[place] : null;
    }

    private static void copy(Diary from, Diary to) {
        if (from == null || to == null) {
            return;
        }
        to.today = from.today;
        to.keep = from.keep;
        to.open = from.open;
        to.work = from.work;
        to.unfoldings = from.unfoldings;
        to.foldings = from.foldings;
        to.rowLength = from.rowLength;
        copyNumbers(from.bits, to.bits);
        copyNumbers(from.forms, to.forms);
        copyNumbers(from.names, to.names);
        copyNumbers(from.row, to.row);
    }

    private static void copyNumbers(int[] from, int[] to) {
        System.arraycopy(from, 0, to, 0, Math.min(from.length, to.length));
    }

    // ---- errors

    private static int spanError(int from, int to) {
        if (!isDay(from) || !isDay(to)) {
            return NO_SUCH;
        }
        return to < from ? BAD_VALUE : NO_ERROR;
    }

    private static int subjectSpanError(int subject, int from, int to) {
        return isSubject(subject) ? spanError(from, to) : NO_SUCH;
    }

    private int changeError(int subject, int from, int to) {
        int error = subjectSpanError(subject, from, to);
        if (error != NO_ERROR) {
            return error;
        }
        return to > diary.today ? NOT_POSSIBLE : NO_ERROR;
    }

    private int passError(int days) {
        if (days < 1 || days > MOST_DAYS_TO_PASS) {
            return BAD_VALUE;
        }
        return diary.today + days > LAST_DAY ? TOO_MANY : NO_ERROR;
    }

    private static boolean isSubject(int subject) {
        return subject >= 0 && subject < SUBJECTS;
    }

    private static boolean isDay(int day) {
        return day >= 0 && day < DAYS;
    }

    private static boolean isMonth(int month) {
        return month >= 0 && month < MONTHS;
    }

    // ---- calendar

    private static int monthOf(int day) {
        int year = day / DAYS_OF_YEAR;
        int dayOfYear = day % DAYS_OF_YEAR;
        int month = 0;
        while (month < MONTHS_OF_YEAR - 1 && startInYear(month + 1) <= dayOfYear) {
            month++;
        }
        return year * MONTHS_OF_YEAR + month;
    }

    private static int firstDayOf(int month) {
        return month / MONTHS_OF_YEAR * DAYS_OF_YEAR + startInYear(month % MONTHS_OF_YEAR);
    }

    private static int daysOf(int month) {
        int monthOfYear = month % MONTHS_OF_YEAR;
        return startInYear(monthOfYear + 1) - startInYear(monthOfYear);
    }

    private static int startInYear(int monthOfYear) {
        return monthOfYear >= 0 && monthOfYear < MONTH_STARTS.length ? MONTH_STARTS[monthOfYear] : 0;
    }

    /** The days of a month from one day to another one, as a set: bit 0 is the month's first day. */
    private static int daysMeant(int month, int from, int to) {
        int first = firstDayOf(month);
        int low = Math.max(from - first, 0);
        int high = Math.min(to - first, daysOf(month) - 1);
        return low > high ? 0 : lowestBits(high - low + 1) << low;
    }

    private static int allDays(int month) {
        return lowestBits(daysOf(month));
    }

    private static int lowestBits(int amount) {
        return (1 << amount) - 1;
    }

    private static boolean isBitSet(int set, int bit) {
        return ((set >>> bit) & 1) == 1;
    }

    /** How many characters a number stands for, 0 if it stands for no text. */
    private static int charactersIn(long characters) {
        long rest = characters;
        int amount = 0;
        while (amount < CHARACTERS_AT_ONCE && rest != 0) {
            int code = (int) (rest & 255);
            if (code < FIRST_SIGN || code > LAST_SIGN) {
                return 0;
            }
            rest >>>= 8;
            amount++;
        }
        return amount;
    }

    /** All that undo and the slots bring back: the marks, and how the months are folded. */
    private static final class Diary {
        int today;
        int keep;
        int open;
        int work;
        int unfoldings;
        int foldings;
        int rowLength;

        // The days of a month on which a subject is marked, month by month, each for all subjects.
        final int[] bits;

        // A form, or NOT_FOLDED for a month that is young or unfolded.
        final int[] forms;

        // The month that a SAME month names, NONE for all others.
        final int[] names;

        // The unfolded months, the one that was looked at longest ago first.
        final int[] row;

        Diary() {
            keep = FIRST_KEEP;
            open = FIRST_OPEN;
            bits = new int[MONTHS * SUBJECTS];
            row = new int[ROW];
            forms = new int[MONTHS];
            for (int i = 0; i < forms.length; i++) {
                forms[i] = NOT_FOLDED;
            }
            names = new int[MONTHS];
            for (int i = 0; i < names.length; i++) {
                names[i] = NONE;
            }
        }

        int bitsOf(int subject, int month) {
            int place = month * SUBJECTS + subject;
            return place >= 0 && place < bits.length ? bits[place] : 0;
        }

        void writeBits(int subject, int month, int value) {
            int place = month * SUBJECTS + subject;
            if (place >= 0 && place < bits.length) {
                bits[place] = value;
            }
        }

        boolean isMarkedOn(int subject, int day) {
            int month = monthOf(day);
            return isBitSet(bitsOf(subject, month), day - firstDayOf(month));
        }

        int marksIn(int month) {
            int total = 0;
            for (int subject = 0; subject < SUBJECTS; subject++) {
                total += Integer.bitCount(bitsOf(subject, month));
            }
            return total;
        }

        int runsIn(int month) {
            int total = 0;
            for (int subject = 0; subject < SUBJECTS; subject++) {
                int marked = bitsOf(subject, month);
                total += Integer.bitCount(marked & ~(marked << 1));
            }
            return total;
        }

        int subjectsIn(int month) {
            int set = 0;
            for (int subject = 0; subject < SUBJECTS; subject++) {
                if (bitsOf(subject, month) != 0) {
                    set |= 1 << subject;
                }
            }
            return set;
        }

        int crowdedDays(int least, int month, int meant) {
            int days = 0;
            for (int day = 0; day < LONGEST_MONTH; day++) {
                if (isBitSet(meant, day) && subjectsOn(month, day) >= least) {
                    days++;
                }
            }
            return days;
        }

        int subjectsOn(int month, int day) {
            int total = 0;
            for (int subject = 0; subject < SUBJECTS; subject++) {
                if (isBitSet(bitsOf(subject, month), day)) {
                    total++;
                }
            }
            return total;
        }

        int allMarks() {
            int total = 0;
            for (int month = 0; month < MONTHS; month++) {
                total += marksIn(month);
            }
            return total;
        }

        int oldMonths() {
            return Math.max(0, monthOf(today) - keep + 1);
        }

        boolean isOld(int month) {
            return month < oldMonths();
        }

        int formOf(int month) {
            return isMonth(month) ? forms[month] : NOT_FOLDED;
        }

        int namedBy(int month) {
            return isMonth(month) ? names[month] : NONE;
        }

        int sizeOf(int month) {
            return sizeIn(month, formOf(month), namedBy(month));
        }

        int allSizes() {
            int total = 0;
            int last = monthOf(today);
            for (int month = 0; month <= last; month++) {
                total += sizeOf(month);
            }
            return total;
        }

        /** The size of a month in a form, NONE if the form is not possible; twin: what it would name. */
        int sizeIn(int month, int form, int twin) {
            switch (form) {
                case EMPTY: return marksIn(month) == 0 ? 0 : NONE;
                case SAME: return twin == NONE ? NONE : 1;
                case RUNS: return 1 + runsIn(month);
                case PLACES: return 1 + (marksIn(month) + MARKS_A_WORD - 1) / MARKS_A_WORD;
                default: return PLAIN_WORDS;
            }
        }

        /** The month that a month would name as SAME; the changing one is as if it had other marks. */
        int twinOf(int month, int changing) {
            for (int lower = 0; lower < month && lower < forms.length; lower++) {
                int form = forms[lower];
                boolean canBeNamed = form != NOT_FOLDED && form != SAME && lower != changing;
                if (canBeNamed && hasSameMarks(lower, month)) {
                    return lower;
                }
            }
            return NONE;
        }

        boolean hasSameMarks(int month, int other) {
            for (int subject = 0; subject < SUBJECTS; subject++) {
                if (bitsOf(subject, month) != bitsOf(subject, other)) {
                    return false;
                }
            }
            return true;
        }

        void fold(int month, int changing) {
            if (!isMonth(month)) {
                return;
            }
            int twin = twinOf(month, changing);
            int best = PLAIN;
            int least = PLAIN_WORDS;
            // Downwards, so that of several forms of one size the lowest stays.
            for (int form = PLACES; form >= EMPTY; form--) {
                int size = sizeIn(month, form, twin);
                if (size != NONE && size <= least) {
                    least = size;
                    best = form;
                }
            }
            forms[month] = best;
            names[month] = best == SAME ? twin : NONE;
            work += least;
            foldings++;
        }

        int placeInRow(int month) {
            for (int i = 0; i < rowLength && i < row.length; i++) {
                if (row[i] == month) {
                    return i;
                }
            }
            return NONE;
        }

        void leaveRow(int place) {
            for (int i = Math.max(place, 0) + 1; i < rowLength && i < row.length; i++) {
                row[i - 1] = row[i];
            }
            rowLength--;
        }

        /** Puts an OLD month at the end of the row, and unfolds it if it is folded. */
        void bringToTheEnd(int month) {
            int place = placeInRow(month);
            if (place != NONE) {
                leaveRow(place);
            } else if (isMonth(month)) {
                work += sizeOf(month);
                unfoldings++;
                forms[month] = NOT_FOLDED;
                names[month] = NONE;
            }
            if (rowLength >= 0 && rowLength < row.length) {
                row[rowLength] = month;
                rowLength++;
            }
        }

        void foldSurplus() {
            int surplus = rowLength - open;
            for (int i = 0; i < surplus && row.length > 0; i++) {
                fold(row[0], NONE);
                leaveRow(0);
            }
        }

        void lookAt(int month) {
            if (isOld(month) && formOf(month) != EMPTY) {
                bringToTheEnd(month);
                foldSurplus();
            }
        }

        void lookAtMonths(int from, int to) {
            int last = monthOf(to);
            for (int month = monthOf(from); month <= last; month++) {
                lookAt(month);
            }
        }

        void lookAtMarkedMonths(int subject, int from, int to) {
            int last = monthOf(to);
            for (int month = monthOf(from); month <= last; month++) {
                if (bitsOf(subject, month) != 0) {
                    lookAt(month);
                }
            }
        }

        int advance(int days) {
            int old = oldMonths();
            today += days;
            int oldNow = oldMonths();
            for (int month = old; month < oldNow; month++) {
                fold(month, NONE);
            }
            return today;
        }

        /** Sets or takes away marks; returns on how many days something is different. */
        int writeDays(int subject, int from, int to, boolean marked) {
            int total = 0;
            int last = monthOf(to);
            for (int month = monthOf(from); month <= last; month++) {
                int before = bitsOf(subject, month);
                int different = daysMeant(month, from, to) & (marked ? ~before : before);
                if (different != 0) {
                    if (isOld(month)) {
                        foldNamersOf(month);
                        bringToTheEnd(month);
                    }
                    writeBits(subject, month, before ^ different);
                    foldSurplus();
                    total += Integer.bitCount(different);
                }
            }
            return total;
        }

        /** The months that name one whose marks will change are folded anew, as they will differ from it. */
        void foldNamersOf(int month) {
            for (int other = 0; other < MONTHS; other++) {
                if (namedBy(other) == month) {
                    fold(other, month);
                }
            }
        }
    }

    /** The text, and the steps that were read from it last. */
    private static final class Pad {
        final char[] signs;
        final Step[] steps;
        int length;
        int place;
        int stepsRead;
        int orders;

        Pad() {
            signs = new char[PAD];
            steps = new Step[STEPS];
            for (int i = 0; i < steps.length; i++) {
                steps[i] = new Step();
            }
        }

        void append(long characters, int amount) {
            for (int i = amount - 1; i >= 0; i--) {
                if (length >= 0 && length < signs.length) {
                    signs[length] = (char) ((characters >>> (8 * i)) & 255);
                    length++;
                }
            }
        }

        Step stepAt(int number) {
            return number >= 0 && number < steps.length ? steps[number] : null;
        }

        /**
         * Reads the text into steps; returns the fault, NONE if there is none. Nothing is passed over
         * that cannot stand where it does, so the place where reading stops is the fault.
         */
        int readAll() {
            place = 0;
            stepsRead = 0;
            orders = 0;
            for (int order = 0; order < PAD; order++) {
                if (!readOrder(order)) {
                    return place;
                }
                orders++;
                if (place == length) {
                    return NONE;
                }
                if (!take(';')) {
                    return place;
                }
            }
            return place;
        }

        boolean readOrder(int order) {
            if (take('p')) {
                int days = readNumber();
                return days != NO_NUMBER && addStep('p', 0, days, days, order);
            }
            char kind = signHere();
            if (!take('m') && !take('c')) {
                return false;
            }
            int subject = signHere() - 'a';
            if (!isSubject(subject)) {
                return false;
            }
            place++;
            return take(':') && readRanges(kind, subject, order);
        }

        boolean readRanges(char kind, int subject, int order) {
            for (int i = 0; i < PAD; i++) {
                int from = readNumber();
                int to = from;
                if (from != NO_NUMBER && take('-')) {
                    to = readNumber();
                }
                if (to == NO_NUMBER || !addStep(kind, subject, from, to, order)) {
                    return false;
                }
                if (!take(',')) {
                    return true;
                }
            }
            return false;
        }

        /** Reads the digits that can stand in one number, and leaves a digit that cannot. */
        int readNumber() {
            int value = digitHere();
            if (value == NO_NUMBER) {
                return NO_NUMBER;
            }
            place++;
            for (int i = 0; i < PAD; i++) {
                int digit = digitHere();
                if (digit == NO_NUMBER || value == 0 || value * 10 + digit > LAST_DAY) {
                    return value;
                }
                value = value * 10 + digit;
                place++;
            }
            return value;
        }

        int digitHere() {
            char sign = signHere();
            return sign >= '0' && sign <= '9' ? sign - '0' : NO_NUMBER;
        }

        char signHere() {
            boolean inText = place >= 0 && place < length && place < signs.length;
            return inText ? signs[place] : NO_SIGN;
        }

        boolean take(char sign) {
            if (signHere() != sign) {
                return false;
            }
            place++;
            return true;
        }

        boolean addStep(char kind, int subject, int from, int to, int order) {
            Step step = stepAt(stepsRead);
            if (step == null) {
                return false;
            }
            step.kind = kind;
            step.subject = subject;
            step.from = from;
            step.to = to;
            step.order = order;
            stepsRead++;
            return true;
        }
    }

    /** An order, or one range of it: its kind is 'm', 'c' or 'p' (from: the days to pass). */
    private static final class Step {
        char kind;
        int subject;
        int from;
        int to;
        int order;
    }
}
