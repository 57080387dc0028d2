/** Promises 1 to 7: each call of the face with ordinary, outermost and wrong inputs. */
public final class FaceTest {
    private static final int LOWEST = Integer.MIN_VALUE;
    private static final int HIGHEST = Integer.MAX_VALUE;

    public static void main(String[] args) {
        newObject();
        typingLengths();
        typingOrder();
        refusedTypingChangesNothing();
        fullText();
        nearlyFullText();
        textIsEmptyBehindRun();
        runTicks();
        refusedRunChangesNothing();
        emptyText();
        countingTicks();
        mostTicks();
        readingOut();
        fullOut();
        readingCounters();
        countersBehindGroups();
        Check.end();
    }

    /** "The text and OUT are empty." */
    private static void newObject() {
        Press press = new Press();
        Check.due("new: size", press.size(), 0);
        Check.due("new: ticks", press.ticks(), 0);
        for (int k = 0; k < 256; k++) {
            Check.due("new: count " + k, press.count(k), 0);
        }
        int[] none = {LOWEST, -1, 0, 1, 7999, 8000, HIGHEST};
        for (int i : none) {
            Check.holds("new: out refuses " + i, press.refusesOut(i));
        }
        Check.holds("new: count refuses -1", press.refusesCount(-1));
        Check.holds("new: count refuses 256", press.refusesCount(256));
        Check.due("new: run without a tick", press.run(0), 0);
        Check.due("new: size behind that", press.size(), 0);
        Check.due("new: ticks behind that", press.ticks(), 0);
        Press other = new Press();
        Check.type(other, "a%");
        Check.due("another object", other.run(1), 0);
        Check.due("objects have a text and OUT of their own", press.size(), 0);
    }

    /** "False ... when n is not 1 .. 8". */
    private static void typingLengths() {
        int[] none = {LOWEST, -8, -1, 0, 9, 16, 4000, HIGHEST};
        for (int n : none) {
            Check.holds("a new object refuses n " + n, !new Press().type(0x2525252525252525L, n));
        }
        for (int n = 1; n <= 8; n++) {
            Press press = new Press();
            Check.holds("type takes n " + n, press.type(0x4847464544434241L, n));
            Check.due("n " + n, press.run(99), 0);
            Check.out("n " + n, press, "ABCDEFGH".substring(0, n) + " ");
        }
    }

    /** "n bytes come behind the text, the lowest byte of w first." */
    private static void typingOrder() {
        Press press = new Press();
        Check.holds("one of two bytes", press.type(0x4241, 1));
        Check.holds("two of many", press.type(0x5a5a5a5a5a5a4342L, 2));
        Check.holds("eight, the last one 255", press.type(0xff30313233343536L, 8));
        Check.holds("eight, the last one 128", press.type(0x80818283848586ffL, 8));
        Check.holds("minus one has bytes 255", press.type(-1L, 1));
        Check.due("typed", press.run(99), 0);
        Check.out("typed", press, "ABC6543210\u00ff\u00ff\u0086\u0085\u0084\u0083\u0082\u0081\u0080\u00ff ");
    }

    private static void refusedTypingChangesNothing() {
        Press press = new Press();
        int[] none = {LOWEST, -1, 0, 9, HIGHEST};
        for (int n : none) {
            Check.holds("refused " + n, !press.type('x', n));
            Check.holds("taken", press.type('a', 1));
        }
        Check.holds("refused", !press.type('x', 9));
        Check.due("run", press.run(99), 0);
        Check.out("nothing was changed", press, "aaaaa ");
    }

    /** "or there would be more than 4000": the last one is taken, and no other behind it. */
    private static void fullText() {
        Press press = new Press();
        Check.type(press, Check.times(3992, "a"));
        Check.holds("4000 bytes", press.type(0x6362626262626262L, 8));
        Check.holds("4001 bytes", !press.type('d', 1));
        Check.holds("4008 bytes", !press.type('d', 8));
        Check.due("run of 4000", press.run(30000), 0);
        Check.due("size of 4000 and the line's end", press.size(), 4001);
        Check.due("byte 3991", press.out(3991), 'a');
        Check.due("byte 3992", press.out(3992), 'b');
        Check.due("byte 3998", press.out(3998), 'b');
        Check.due("byte 3999", press.out(3999), 'c');
        Check.due("byte 4000", press.out(4000), ' ');
        Check.holds("byte 4001", press.refusesOut(4001));
        Check.holds("room again behind the run", press.type('b', 8));
    }

    private static void nearlyFullText() {
        Press press = new Press();
        Check.type(press, Check.times(3984, "a"));
        Check.type(press, "bbbbbbb");
        Check.type(press, "cc");
        Check.holds("8 bytes where 7 fit", !press.type('d', 8));
        Check.holds("7 bytes where 7 fit", press.type(0x65646464646464L, 7));
        Check.holds("1 byte where none fits", !press.type('f', 1));
        Check.due("run of 4000", press.run(30000), 0);
        Check.due("size", press.size(), 4001);
        Check.due("the last byte before the refused ones", press.out(3992), 'c');
        Check.due("the first byte behind the refused ones", press.out(3993), 'd');
        Check.due("the last byte", press.out(3999), 'e');
    }

    /** "The text is RUN, and empty then". */
    private static void textIsEmptyBehindRun() {
        String[] texts = {"ab", "ab\\q cd", "ab\\end cd", "", "{ab", "ab\u007fcd\nef"};
        for (String text : texts) {
            Press press = new Press();
            Check.type(press, text);
            press.run(99);
            Check.due(text + ", then nothing", press.run(99), 0);
            Check.due(text + ", then nothing", press.size(), 0);
            Check.due(text + ", then nothing", press.ticks(), 0);
            Check.type(press, "x%");
            Check.due(text + ", then another", press.run(99), 0);
            Check.out(text + ", then another", press, "x");
        }
        Press press = new Press();
        Check.type(press, "abc%");
        Check.due("ended by ticks", press.run(1), 100001);
        Check.due("ended by ticks, then nothing", press.run(99), 0);
        Check.due("ended by ticks, then nothing", press.size(), 0);
    }

    /** "IllegalArgumentException when ticks is not 0 .. 30000." */
    private static void runTicks() {
        int[] none = {LOWEST, -30000, -1, 30001, 60000, HIGHEST};
        for (int ticks : none) {
            Check.holds("a new object refuses run " + ticks, new Press().refusesRun(ticks));
        }
        int[] some = {0, 1, 29999, 30000};
        for (int ticks : some) {
            Press press = new Press();
            Check.due("run of nothing with ticks " + ticks, press.run(ticks), 0);
            Check.type(press, "a%");
            Check.due("run of one byte with ticks " + ticks, press.run(ticks), ticks == 0 ? 100001 : 0);
        }
    }

    /** "A call that throws changes nothing." */
    private static void refusedRunChangesNothing() {
        Press press = new Press();
        Check.type(press, "\\count7=5 ab");
        refuseAll(press);
        Check.due("ticks behind a run that throws", press.ticks(), 0);
        Check.due("size behind a run that throws", press.size(), 0);
        Check.due("the text behind a run that throws", press.run(30000), 0);
        Check.out("the text behind a run that throws", press, "ab ");
        Check.type(press, "c%");
        refuseAll(press);
        Check.out("OUT behind a run that throws", press, "ab ");
        Check.due("count behind a run that throws", press.count(7), 5);
        Check.due("ticks behind a run that throws", press.ticks(), 4);
        Check.due("run behind a run that throws", press.run(1), 0);
        Check.out("run behind a run that throws", press, "c");
    }

    private static void refuseAll(Press press) {
        int[] none = {LOWEST, -1, 30001, HIGHEST};
        for (int ticks : none) {
            Check.holds("run refuses " + ticks, press.refusesRun(ticks));
        }
        Check.holds("out refuses 8000", press.refusesOut(8000));
        Check.holds("count refuses 256", press.refusesCount(256));
    }

    private static void emptyText() {
        Press press = new Press();
        Check.type(press, "\\count1=2 \\count2=3 abc");
        Check.due("before", press.run(99), 0);
        Check.due("the empty text", press.run(0), 0);
        Check.due("the empty text leaves no bytes", press.size(), 0);
        Check.holds("the empty text leaves no bytes", press.refusesOut(0));
        Check.due("the empty text needs no ticks", press.ticks(), 0);
        Check.due("the empty text leaves no counters", press.count(1), 0);
        Check.due("the empty text leaves no counters", press.count(2), 0);
    }

    /** "How many ticks the latest run needed (with the one that was too many); 0 before any." */
    private static void countingTicks() {
        for (int ticks = 0; ticks <= 4; ticks++) {
            Press press = new Press();
            Check.type(press, "abc%");
            Check.due("three bytes with ticks " + ticks, press.run(ticks), ticks < 3 ? 100001 : 0);
            Check.due("ticks of three bytes with " + ticks, press.ticks(), Math.min(ticks + 1, 3));
            Check.out("OUT of three bytes with " + ticks, press, "abc".substring(0, Math.min(ticks, 3)));
        }
        Press press = new Press();
        Check.type(press, "abc%");
        Check.due("run", press.run(2), 100001);
        Check.type(press, "a%");
        Check.due("ticks stay while a text is typed", press.ticks(), 3);
        Check.due("run", press.run(9), 0);
        Check.due("ticks of the latest run", press.ticks(), 1);
        Check.type(press, "a\\q");
        Check.due("run", press.run(9), 110001);
        Check.due("a tick that ends in a fault counts", press.ticks(), 2);
    }

    /** 30000 ticks are enough for a run that needs as many, and for no other. */
    private static void mostTicks() {
        String text = "\\let~=\\relax\\def\\y#1{" + Check.times(10, "#1") + "}"
                + Check.times(3, "\\y{" + Check.times(999, "~") + "}") + Check.times(25, "~");
        Check.needs(30000, text + "%");
        Press press = new Press();
        Check.type(press, text + "%\n~~~");
        Check.due("30003 ticks", press.run(30000), 100002);
        Check.due("30003 ticks", press.ticks(), 30001);
    }

    /** "Byte i of OUT. IndexOutOfBoundsException when there is none." */
    private static void readingOut() {
        Press press = new Press();
        Check.type(press, "xy\u00ff%");
        Check.due("run", press.run(9), 0);
        Check.due("size", press.size(), 3);
        Check.due("out 0", press.out(0), 'x');
        Check.due("out 1", press.out(1), 'y');
        Check.due("out 2", press.out(2), 255);
        int[] none = {LOWEST, -2, -1, 3, 4, 7999, 8000, HIGHEST};
        for (int i : none) {
            Check.holds("out refuses " + i, press.refusesOut(i));
        }
        Check.due("size behind refused calls", press.size(), 3);
        Check.type(press, "z%");
        Check.due("OUT stays while a text is typed", press.size(), 3);
        Check.due("run", press.run(9), 0);
        Check.due("size of the latest run", press.size(), 1);
        Check.holds("what an earlier run left is none", press.refusesOut(1));
        Check.type(press, "ab\\q");
        Check.due("run", press.run(9), 110001);
        Check.out("OUT has what came out up to the fault", press, "ab");
        Check.holds("out refuses 2", press.refusesOut(2));
    }

    /** 8000 bytes fit; the one more is a fault, and OUT has the 8000. */
    private static void fullOut() {
        String[] more = {"", "b", "\n", "\\x"};
        for (String one : more) {
            Press press = new Press();
            Check.type(press, "\\chardef\\x=98 \\def\\y#1{" + Check.times(9, "#1") + "}\\y{a" + Check.times(799, "b") + "}"
                    + Check.times(799, "b") + "c%\n" + one + (one.equals("\n") ? "" : "%"));
            Check.due("run with " + one + " behind 8000", press.run(30000), one.isEmpty() ? 0 : 20002);
            Check.due("ticks with " + one + " behind 8000", press.ticks(), one.isEmpty() ? 8003 : 8004);
            Check.due("size", press.size(), 8000);
            Check.due("byte 0", press.out(0), 'a');
            Check.due("byte 7200", press.out(7200), 'b');
            Check.due("byte 7998", press.out(7998), 'b');
            Check.due("byte 7999", press.out(7999), 'c');
            Check.holds("byte 8000", press.refusesOut(8000));
        }
    }

    /** "IndexOutOfBoundsException when k is not 0 .. 255." */
    private static void readingCounters() {
        Press press = new Press();
        Check.type(press, "\\count0=7 \\count1=2147483647 \\count254=-2147483647 \\count255=-8 ");
        Check.due("run", press.run(99), 0);
        Check.due("count 0", press.count(0), 7);
        Check.due("count 1", press.count(1), 2147483647);
        Check.due("count 2", press.count(2), 0);
        Check.due("count 254", press.count(254), -2147483647);
        Check.due("count 255", press.count(255), -8);
        int[] none = {LOWEST, -256, -1, 256, 257, 512, HIGHEST};
        for (int k : none) {
            Check.holds("count refuses " + k, press.refusesCount(k));
        }
        Check.type(press, "\\count1=5 ");
        Check.due("counters stay while a text is typed", press.count(1), 2147483647);
        Check.due("run", press.run(99), 0);
        Check.due("count 1 of the latest run", press.count(1), 5);
        Check.due("count 255 of the latest run", press.count(255), 0);
    }

    /** "Counter k as it is outside of all groups at the end of the latest run (with a fault: as it was then)". */
    private static void countersBehindGroups() {
        String[] groups = {"{", "\\begingroup "};
        String[] ends = {"", "\\end", "\\q", "#", "\\fi", "\\count4=9 \\divide\\count1 by0 ", "\\global\\count1=x"};
        int[] answers = {90001, 90001, 110001, 120001, 80001, 70001, 60001};
        for (String group : groups) {
            for (int i = 0; i < ends.length; i++) {
                String text = "\\count1=1 \\count2=2 " + group + "\\count1=3 \\global\\count2=4 \\count3=5 " + group
                        + "\\count1=6 \\count2=7 \\global\\count5=-5 " + ends[i] + "%";
                Press press = Check.fails(text, answers[i], "");
                Check.due(text + " count 1", press.count(1), 1);
                Check.due(text + " count 2", press.count(2), 4);
                Check.due(text + " count 3", press.count(3), 0);
                Check.due(text + " count 4", press.count(4), 0);
                Check.due(text + " count 5", press.count(5), -5);
            }
        }
        Press press = Check.failsIn(3, "\\count1=1 \\count1=2 \\q", 110001);
        Check.due("a fault outside of all groups", press.count(1), 2);
        press = Check.failsIn(5, "\\count1=1 {\\count1=2 }\\end", 0);
        Check.due("a group that is closed", press.count(1), 1);
        press = Check.failsIn(4, "{\\count1=2 \\global\\count1=3 }%", 0);
        Check.due("set globally in a group that is closed", press.count(1), 3);
    }
}
