/** Diaries that the tests of edges start with. */
final class Diaries {
    private Diaries() {
    }

    static FoldedMonths diary(int keep, int open, int today) {
        FoldedMonths x = new FoldedMonths();
        start(x, keep, open, today);
        return x;
    }

    static void start(FoldedMonths x, int keep, int open, int today) {
        x.set(FoldedMonths.KEEP, keep);
        x.set(FoldedMonths.OPEN, open);
        passTo(x, today);
    }

    static void passTo(FoldedMonths x, int today) {
        int left = today - x.count(0);
        while (left > 0) {
            x.pass(Math.min(left, 400));
            left -= Math.min(left, 400);
        }
    }

    /** KEEP is 1, and today the first day of the month 4: the months 0 to 3 (from 0, 31, 59 and 90 on) are OLD. */
    static FoldedMonths fourOld(int open) {
        return diary(1, open, 120);
    }

    /** Appends a text, eight characters at once. */
    static int put(FoldedMonths x, String text) {
        int length = 0;
        for (int i = 0; i < text.length(); i += 8) {
            length = x.put(number(text.substring(i, Math.min(text.length(), i + 8))));
        }
        return length;
    }

    /** The number that put() takes for up to eight characters. */
    static long number(String characters) {
        long number = 0;
        for (int i = 0; i < characters.length(); i++) {
            number = number << 8 | characters.charAt(i);
        }
        return number;
    }

    /** Something of all that there can be: the history is full, both slots hold something, and so does the pad. */
    static void busy(FoldedMonths x) {
        start(x, 1, 2, 59);
        x.mark(0, 3, 9);
        x.mark(1, 3, 3);
        x.save(0);
        x.pass(71);
        x.mark(0, 34, 40);
        x.mark(1, 34, 34);
        x.mark(0, 62, 70);
        x.mark(15, 90, 125);
        x.save(1);
        x.clear(0, 62, 62);
        put(x, "ma:1;p2;cp:100");
    }

    /** Nothing can be undone, the slot 0 alone holds something, and the pad has a fault. */
    static void fresh(FoldedMonths x) {
        x.save(0);
        put(x, "p1;");
    }

    /** Fifty days are left, and the pad is full. */
    static void late(FoldedMonths x) {
        start(x, 12, 2, 3599);
        x.mark(0, 3, 9);
        x.mark(15, 3597, 3599);
        put(x, "ma:" + "0,".repeat(38) + "3");
    }
}
