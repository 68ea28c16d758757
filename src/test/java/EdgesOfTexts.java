/** The edges in the chapter "Texts", and of the promises 20 to 23. */
final class EdgesOfTexts {
    private static final int BAD_VALUE = -2, BAD_TEXT = -3, TOO_MANY = -4, NONE = -6;

    private final Edges e;

    private EdgesOfTexts(Edges e) {
        this.e = e;
    }

    static void test(Edges e) {
        EdgesOfTexts edges = new EdgesOfTexts(e);
        e.chapter("Texts");
        edges.pad();
        edges.grammar();
        edges.subjects();
        edges.numbers();
        edges.ranges();
        edges.faults();
        edges.endsTooEarly();
        edges.constants();
        edges.callsAhead();
        edges.put();
        edges.wipe();
        edges.fault();
        edges.carryOut();
        edges.carriedOut();
    }

    private static FoldedMonths with(String text) {
        FoldedMonths x = Diaries.diary(2, 2, 60);
        Diaries.put(x, text);
        return x;
    }

    private void fault(String text, int due) {
        e.due("fault() of \"" + text + "\"", with(text).fault(), due);
    }

    private void pad() {
        e.sentence("The pad is a text of at most 80 characters, a row of orders:");
        FoldedMonths x = new FoldedMonths();
        for (int i = 1; i <= 80; i++) {
            e.due("put() of the character " + i, x.put('p'), i);
        }
        e.due("put() of the character 81", x.put('p'), TOO_MANY);
        e.due("the length", x.count(11), 80);
        FoldedMonths y = with("p1;".repeat(26) + "p1");
        e.due("80 characters of orders", y.count(11), 80);
        e.due("27 orders", y.carryOut(), 27);
        e.due("each was carried out", y.count(0), 87);
    }

    private void grammar() {
        e.sentence("text = order { \";\" order }");
        fault("p1", NONE);
        fault("p1;p1", NONE);
        fault(";p1", 0);
        fault("p1;;p1", 3);
        fault("p1;", 3);
        fault("p1p1", 2);
        e.sentence("order = \"m\" subject \":\" range { \",\" range } | \"c\" subject \":\" range { \",\" range } | \"p\" number");
        fault("ma:1", NONE);
        fault("ca:1", NONE);
        fault("ma:1,1", NONE);
        fault("ma:1,1,1", NONE);
        fault("ca:1,1-2", NONE);
        fault("ma:,1", 3);
        fault("ma:1,,1", 5);
        fault("ma:1,", 5);
        fault("ma1", 2);
        fault("m:1", 1);
        fault("m", 1);
        fault("ma", 2);
        fault("ma::1", 3);
        fault("p1,1", 2);
        fault("p1-1", 2);
        fault("pa:1", 1);
        fault("M", 0);
        fault("n", 0);
        fault("l", 0);
        fault("b", 0);
        fault("d", 0);
        fault("o", 0);
        fault("q", 0);
        e.sentence("range = number [ \"-\" number ]");
        fault("ma:1-1", NONE);
        fault("ma:-1", 3);
        fault("ma:1-", 5);
        fault("ma:1--1", 5);
        fault("ma:1-1-1", 6);
        e.noEdge("\"m\": mark() of a subject on all days of the ranges; \"c\": clear(); \"p\": so many days pass().");
    }

    private void subjects() {
        e.sentence("A subject is a letter from a to p (0 to 15),");
        fault("m`:1", 1);
        fault("mq:1", 1);
        fault("mA:1", 1);
        fault("mP:1", 1);
        fault("m0:1", 1);
        for (int s = 0; s < 16; s++) {
            FoldedMonths x = with("m" + (char) ('a' + s) + ":60");
            e.due("an order for the subject " + s, x.carryOut(), 1);
            e.due("its marks", x.inMonth(s, 2), 1);
            e.due("all marks", x.count(8), 1);
            Diaries.put(x, "c" + (char) ('a' + s) + ":60");
            e.due("an order for the subject " + s, x.carryOut(), 1);
            e.due("all marks", x.count(8), 0);
        }
    }

    private void numbers() {
        e.sentence("a number is 0 to 3649, without leading zeros;");
        String[] numbers = {"0", "1", "9", "10", "99", "100", "999", "1000", "2999", "3000", "3599", "3600", "3640", "3649"};
        for (String number : numbers) {
            fault("p" + number, NONE);
            fault("mp:" + number, NONE);
            fault("cp:0-" + number, NONE);
        }
        String[] tooMuch = {"3650", "3651", "3659", "3700", "4000", "9999", "36490", "10000", "4294967297", "00", "01", "000"};
        int[] faults = {3, 3, 3, 3, 3, 3, 4, 4, 3, 1, 1, 1};
        for (int i = 0; i < tooMuch.length; i++) {
            fault("p" + tooMuch[i], 1 + faults[i]);
            fault("mp:" + tooMuch[i], 3 + faults[i]);
            fault("cp:0-" + tooMuch[i], 5 + faults[i]);
        }
        fault("p/", 1);
        fault("p:", 1);
        FoldedMonths x = with("ma:0,60");
        e.due("the day 0 and today", x.carryOut(), 1);
        e.due("the day 0", x.isMarked(0, 0), 1);
        e.due("today", x.isMarked(0, 60), 1);
        FoldedMonths y = Diaries.diary(2, 2, 3649);
        Diaries.put(y, "ma:3649;cb:0-3649");
        e.due("the last day", y.carryOut(), 2);
        e.due("the last day is marked", y.isMarked(0, 3649), 1);
    }

    private void ranges() {
        e.sentence("the second number of a range is the last day of it.");
        FoldedMonths x = with("ma:3-5,7-7,9");
        e.due("three ranges", x.carryOut(), 1);
        int[] due = {0, 1, 1, 1, 0, 1, 0, 1, 0};
        for (int day = 2; day <= 10; day++) {
            e.due("the day " + day, x.isMarked(0, day), due[day - 2]);
        }
        fault("ma:5-4", NONE);
        Diaries.put(x, "ma:5-4");
        e.due("the last day is ahead of the first one", x.carryOut(), 0);
        e.due("nothing is marked by it", x.count(8), 5);
    }

    private void faults() {
        e.sentence("The fault is the index of the first character that cannot stand at its place when the text is read from left to "
            + "right (also of a digit by which a number would be above 3649);");
        fault("x", 0);
        fault("p1;x", 3);
        fault("p1;p2;ma:3;x;y", 11);
        fault("px;py", 1);
        fault("p3650;", 4);
        fault("p36499", 5);
        fault("ma:3649,3650", 11);
        fault("ma:1-3650", 8);
        fault("ma:4-36500", 8);
        fault("ma:0" + ",0".repeat(37) + ",x", 79);
        fault("ma:10" + ",0".repeat(37) + "0", 79);
        fault("p1;".repeat(26) + "px", 79);
    }

    private void endsTooEarly() {
        e.sentence("if there is none and the text ends too early (also if it is empty), it is the length of the text.");
        e.due("fault() of nothing", new FoldedMonths().fault(), 0);
        fault("m", 1);
        fault("c", 1);
        fault("p", 1);
        fault("ma", 2);
        fault("ma:", 3);
        fault("ma:1,", 5);
        fault("ma:1-", 5);
        fault("ma:1;", 5);
        fault("p1;p", 4);
        fault("ma:10" + ",0".repeat(37) + ",", 80);
        fault("ma:10" + ",0".repeat(37) + "-", 80);
        fault("ma:10" + ",0".repeat(37) + ";", 80);
        fault("p1;".repeat(25) + "p100;", 80);
        fault("p100;" + "p1;".repeat(24) + "ma:", 80);
    }

    private void constants() {
        e.sentence("The constants: NO_SUCH = -1, BAD_VALUE = -2, BAD_TEXT = -3, TOO_MANY = -4, NOT_POSSIBLE = -5, NONE = -6: Error "
            + "codes, and NONE: there is none.");
        e.due("NO_SUCH", FoldedMonths.NO_SUCH, -1);
        e.due("BAD_VALUE", FoldedMonths.BAD_VALUE, -2);
        e.due("BAD_TEXT", FoldedMonths.BAD_TEXT, -3);
        e.due("TOO_MANY", FoldedMonths.TOO_MANY, -4);
        e.due("NOT_POSSIBLE", FoldedMonths.NOT_POSSIBLE, -5);
        e.due("NONE", FoldedMonths.NONE, -6);
        e.sentence("KEEP = 0, OPEN = 1: Settings.");
        e.due("KEEP", FoldedMonths.KEEP, 0);
        e.due("OPEN", FoldedMonths.OPEN, 1);
        e.sentence("EMPTY = 0, SAME = 1, RUNS = 2, PLACES = 3, PLAIN = 4: Forms.");
        e.due("EMPTY", FoldedMonths.EMPTY, 0);
        e.due("SAME", FoldedMonths.SAME, 1);
        e.due("RUNS", FoldedMonths.RUNS, 2);
        e.due("PLACES", FoldedMonths.PLACES, 3);
        e.due("PLAIN", FoldedMonths.PLAIN, 4);
    }

    private void callsAhead() {
        e.sentence("Ahead of the calls set, pass, mark, clear the interface says: ---- changes.");
        FoldedMonths x = new FoldedMonths();
        x.set(0, 1);
        x.pass(120);
        x.mark(0, 0, 0);
        x.clear(1, 0, 0);
        e.due("four changes", x.count(12), 4);
        e.sentence("Ahead of the calls marks, isMarked, both, crowded, longest, nextMark the interface says: ---- questions, which "
            + "look at months (this is no change, though the row of unfolded months and the work may be other ones then).");
        Call[] questions = {y -> y.marks(0, 1, 9), y -> y.isMarked(0, 3), y -> y.both(0, 1, 3, 3), y -> y.crowded(1, 3, 3),
            y -> y.longest(0, 3, 3, 0), y -> y.nextMark(0, 3)};
        for (int i = 0; i < questions.length; i++) {
            FoldedMonths y = Diaries.fourOld(2);
            y.mark(0, 0, 9);
            y.set(1, 0);
            y.set(1, 2);
            e.row("nothing is unfolded", y);
            int work = y.count(5);
            questions[i].of(y);
            e.due("no change by the question " + i, y.count(12), 6);
            e.row("another row by the question " + i, y, 0);
            e.due("work by the question " + i, y.count(5) - work, 2);
            e.due("undone is only the change ahead of it", y.undo(), 5);
            e.row("the row as ahead of that change", y);
            e.due("OPEN as ahead of that change", y.count(10), 0);
        }
        e.sentence("Ahead of the calls ofMonth, inMonth, dayOf, dateOf, count the interface says: ---- what there is; nothing is "
            + "looked at.");
        Story busy = Diaries::busy;
        for (int what = 0; what <= 9; what++) {
            int that = what;
            e.alike("ofMonth(0, " + what + ")", busy, after(busy, y -> y.ofMonth(0, that)));
        }
        e.alike("inMonth(0, 0)", busy, after(busy, y -> y.inMonth(0, 0)));
        e.alike("dayOf(0, 1, 1)", busy, after(busy, y -> y.dayOf(0, 1, 1)));
        e.alike("dateOf(0, 0)", busy, after(busy, y -> y.dateOf(0, 0)));
        for (int what = 0; what <= 12; what++) {
            int that = what;
            e.alike("count(" + what + ")", busy, after(busy, y -> y.count(that)));
        }
        e.sentence("Ahead of the calls sizeAs, workOf, bestOpen the interface says: ---- what if; nothing changes, and nothing is "
            + "looked at.");
        for (int form = 0; form <= 4; form++) {
            int that = form;
            e.alike("sizeAs(0, " + form + ")", busy, after(busy, y -> y.sizeAs(0, that)));
        }
        e.alike("workOf(0, 3649)", busy, after(busy, y -> y.workOf(0, 3649)));
        e.alike("bestOpen(0, 3649)", busy, after(busy, y -> y.bestOpen(0, 3649)));
        e.noEdge("Ahead of the calls put, wipe, fault, carryOut the interface says: ---- texts.");
        e.noEdge("Ahead of the calls undo, save, restore the interface says: ---- undo, saving.");
    }

    private static Story after(Story story, Call call) {
        return x -> {
            story.tell(x);
            call.of(x);
        };
    }

    private void put() {
        e.chapter("Promise 20: put");
        e.sentence("int put(long characters): Appends characters to the pad.");
        FoldedMonths x = new FoldedMonths();
        e.due("to nothing", x.put(Diaries.number("p")), 1);
        e.due("behind that", x.put(Diaries.number("12")), 3);
        e.due("p12", x.carryOut(), 1);
        e.due("today", x.count(0), 12);
        e.due("to nothing again", x.put(Diaries.number("p")), 1);
        e.sentence("They are given as a number: its lowest 8 bits are the last character, the next 8 bits the one before, and so on;");
        FoldedMonths y = new FoldedMonths();
        e.due("eight characters", y.put(0x70313b7032303b70L), 8);
        e.due("one character", y.put(0x33), 9);
        e.due("p1;p20;p3", y.carryOut(), 3);
        e.due("today", y.count(0), 24);
        e.sentence("8 bits that are 0 mean that there are no more characters, and everything above them has to be 0, too.");
        Story nothing = z -> { };
        e.due("0 above one character", new FoldedMonths().put(0x70L), 1);
        e.due("0 above seven characters", new FoldedMonths().put(0x70707070707070L), 7);
        e.due("0 above eight characters", new FoldedMonths().put(0x7070707070707070L), 8);
        e.refused("0 between two characters", nothing, z -> z.put(0x700070L), BAD_VALUE);
        e.refused("0 as the last character", nothing, z -> z.put(0x7000L), BAD_VALUE);
        e.refused("the lowest bit above 0", nothing, z -> z.put(0x10070L), BAD_VALUE);
        e.refused("the highest bit above 0", nothing, z -> z.put(0x8000000000000070L), BAD_VALUE);
        e.refused("the highest bit alone", nothing, z -> z.put(Long.MIN_VALUE), BAD_VALUE);
        e.sentence("characters: 1 to 8 characters");
        e.refused("no character", nothing, z -> z.put(0), BAD_VALUE);
        for (int length = 1; length <= 8; length++) {
            e.due(length + " characters", new FoldedMonths().put(Diaries.number("pppppppp".substring(8 - length))), length);
        }
        e.sentence("Returns the length of the pad then;");
        FoldedMonths w = new FoldedMonths();
        for (int i = 1; i <= 10; i++) {
            e.due("eight more", w.put(Diaries.number("p1;p1;p1")), 8 * i);
            e.due("the length", w.count(11), 8 * i);
        }
        e.sentence("BAD_VALUE if there is no character, a code is not 33 to 126, or a bit above 8 bits that are 0 is not 0;");
        e.refused("no character", nothing, z -> z.put(0), BAD_VALUE);
        e.due("the code 33", new FoldedMonths().put(33), 1);
        e.due("the code 126", new FoldedMonths().put(126), 1);
        for (int place = 0; place < 8; place++) {
            int shift = 8 * place;
            long others = 0x6161616161616161L & ~(255L << shift);
            long low = others | 33L << shift;
            long high = others | 126L << shift;
            e.due("the code 33 at the place " + place, new FoldedMonths().put(low), 8);
            e.due("the code 126 at the place " + place, new FoldedMonths().put(high), 8);
            for (long code : new long[] {1, 32, 127, 128, 33 + 128, 255}) {
                long bad = others | code << shift;
                e.refused("the code " + code + " at the place " + place, nothing, z -> z.put(bad), BAD_VALUE);
            }
            if (place < 7) {
                e.refused("0 at the place " + place, nothing, z -> z.put(others), BAD_VALUE);
            }
        }
        e.refused("-1", nothing, z -> z.put(-1L), BAD_VALUE);
        e.refused("the greatest long", nothing, z -> z.put(Long.MAX_VALUE), BAD_VALUE);
        e.sentence("TOO_MANY if the pad would be longer than 80.");
        for (int length = 1; length <= 8; length++) {
            long characters = Diaries.number("pppppppp".substring(8 - length));
            int start = 80 - length;
            Story room = z -> Diaries.put(z, "p".repeat(start));
            Story less = z -> Diaries.put(z, "p".repeat(start + 1));
            e.due(length + " characters for " + length, State.told(room).put(characters), 80);
            e.refused(length + " characters for one less", less, z -> z.put(characters), TOO_MANY);
        }
        e.refused("a full pad", Diaries::late, z -> z.put('1'), TOO_MANY);
    }

    private void wipe() {
        e.chapter("Promise 21: wipe");
        e.sentence("int wipe(): Empties the pad, and returns the length that it had.");
        FoldedMonths x = new FoldedMonths();
        e.due("an empty pad", x.wipe(), 0);
        Diaries.put(x, "p");
        e.due("one character", x.wipe(), 1);
        e.due("empty again", x.wipe(), 0);
        Diaries.put(x, "p".repeat(80));
        e.due("a full pad", x.wipe(), 80);
        e.due("the length", x.count(11), 0);
        e.due("nothing stands in it", x.fault(), 0);
        e.due("there is room again", Diaries.put(x, "p2"), 2);
        e.due("nothing is left of it", x.carryOut(), 1);
        e.due("today", x.count(0), 2);
        e.due("wiping is no change", x.count(12), 1);
    }

    private void fault() {
        e.chapter("Promise 22: fault");
        e.sentence("int fault(): Returns the fault of the pad, NONE if there is none.");
        e.due("of nothing", new FoldedMonths().fault(), 0);
        e.due("of an order", with("p0").fault(), NONE);
        e.due("of a full pad of 39 ranges", with("ma:0" + ",0".repeat(38)).fault(), NONE);
        e.due("of a full pad of 27 orders", with("p1;".repeat(26) + "p1").fault(), NONE);
        Story busy = Diaries::busy;
        e.alike("nothing changes", busy, after(busy, x -> x.fault()));
        e.alike("nothing changes by a text with a fault", Diaries::fresh, after(Diaries::fresh, x -> x.fault()));
    }

    private void carryOut() {
        e.chapter("Promise 23: carryOut");
        e.sentence("int carryOut(): Carries the orders of the pad out, one after the other, up to the first one that returns an error "
            + "(of an \"m\" or \"c\", for some range; what was done ahead of that stays), and empties the pad.");
        FoldedMonths x = with("ma:0,61,1;p1");
        e.due("tomorrow, for the second range", x.carryOut(), 0);
        e.due("the range ahead of it stays", x.isMarked(0, 0), 1);
        e.due("the range behind it does not come", x.isMarked(0, 1), 0);
        e.due("nor the order behind it", x.count(0), 60);
        e.due("the pad is empty", x.count(11), 0);
        FoldedMonths y = with("p1;ma:61,0-3;ca:1-2,2-1,3");
        e.due("tomorrow is today by then; a range that is none", y.carryOut(), 2);
        e.due("marks that stay", y.count(8), 3);
        e.due("the pad is empty", y.count(11), 0);
        FoldedMonths z = with("p0;p1");
        e.due("no day", z.carryOut(), 0);
        e.due("today", z.count(0), 60);
        FoldedMonths w = with("p400;p401;p1");
        e.due("400 and 401 days", w.carryOut(), 1);
        e.due("today", w.count(0), 460);
        FoldedMonths v = Diaries.diary(2, 2, 3648);
        Diaries.put(v, "p2");
        e.due("a day too many", v.carryOut(), 0);
        Diaries.put(v, "p1;p1");
        e.due("up to the last day", v.carryOut(), 1);
        e.due("today", v.count(0), 3649);
        Diaries.put(v, "cp:3649,0-3649;mp:3649");
        e.due("all days", v.carryOut(), 2);
        e.due("marks", v.count(8), 1);
        FoldedMonths u = with("ma:0" + ",0".repeat(37) + ",1");
        e.due("39 ranges", u.carryOut(), 1);
        e.due("also the last one", u.isMarked(0, 1), 1);
        FoldedMonths s = with("pa;ma:0-9;p1");
        s.mark(0, 0, 9);
        s.wipe();
        Diaries.put(s, "cb:5");
        e.due("one order", s.carryOut(), 1);
        e.due("no more than the orders of the pad", s.count(8), 10);
        Diaries.put(s, "ca:0-2,4,6;ca:9");
        e.due("two orders", s.carryOut(), 2);
        s.mark(0, 0, 9);
        Diaries.put(s, "p1");
        e.due("one order", s.carryOut(), 1);
        e.due("nothing of the orders ahead of that", s.count(8), 10);
        FoldedMonths t = with("p9;ma:61;cb:3-2;p1");
        e.due("an error of the third order", t.carryOut(), 2);
    }

    private void carriedOut() {
        e.sentence("This is a change (one, with all of them; also if none is carried out).");
        FoldedMonths x = new FoldedMonths();
        Diaries.put(x, "p1;ma:0,1;cb:0;p1");
        e.due("four orders", x.carryOut(), 4);
        e.due("one change", x.count(12), 1);
        Diaries.put(x, "p0");
        e.due("none is carried out", x.carryOut(), 0);
        e.due("a change all the same", x.count(12), 2);
        e.due("undone", x.undo(), 1);
        e.due("today", x.count(0), 2);
        e.due("undone with all of them", x.undo(), 0);
        e.due("today", x.count(0), 0);
        e.due("marks", x.count(8), 0);
        e.due("the pad stays empty", x.count(11), 0);
        e.sentence("Returns how many orders were carried out whole;");
        e.due("none", with("ma:61;p1").carryOut(), 0);
        e.due("one, and a part of the second", with("p1;ma:0,62;p1").carryOut(), 1);
        e.due("all", with("p1;ma:0,61").carryOut(), 2);
        e.due("27", with("p1;".repeat(26) + "p1").carryOut(), 27);
        e.due("26, as the last one is no day", with("p1;".repeat(26) + "p0").carryOut(), 26);
        e.sentence("BAD_TEXT if the pad has a fault (then it stays).");
        e.refused("nothing", z -> { }, z -> z.carryOut(), BAD_TEXT);
        e.refused("an end too early", Diaries::fresh, z -> z.carryOut(), BAD_TEXT);
        e.refused("a fault behind good orders", z -> Diaries.put(z, "p1;ma:0;x"), z -> z.carryOut(), BAD_TEXT);
        e.refused("a number above 3649", z -> Diaries.put(z, "p1;p3650"), z -> z.carryOut(), BAD_TEXT);
        FoldedMonths y = with("p1;");
        e.due("carryOut()", y.carryOut(), BAD_TEXT);
        e.due("the pad stays", y.count(11), 3);
        Diaries.put(y, "p2");
        e.due("put right", y.carryOut(), 2);
        e.due("today", y.count(0), 63);
    }
}
