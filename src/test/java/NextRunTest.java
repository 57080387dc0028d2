/** Promises 3 to 7, what holds when the next run begins: all is as at first, however the run before ended. */
public final class NextRunTest {
    /** Each changes something, and most leave something open. */
    private static final String[] BEFORE = {
        "\\catcode`a=13 \\catcode`\\%=12 \\catcode`\\{=12 \\catcode32=15\\catcode13=12\\catcode`\\\\=12\\q",
        "{\\catcode`a=13 \\global\\catcode`b=13 \\catcode`\\%=12 \\global\\catcode`\\#=12 {",
        "\\def\\q{x}\\def~{y}\\def\\relax{z}\\let\\def=\\relax\\let\\par=\\end\\chardef\\count=65 ",
        "{\\gdef\\q{x}\\global\\let~=y\\def\\relax{z}\\global\\let\\def=\\relax\\let\\par=\\end",
        "\\csname q\\endcsname\\let~=\\relax",
        "{\\csname q\\endcsname\\let~=\\relax\\iftrue{\\iffalse",
        "\\count0=1 \\count1=2 \\count255=3 {\\global\\count2=4 \\count3=5 {\\count1=6 \\count0=7 }",
        "abcdef{\\begingroup{\\begingroup\\iftrue\\ifcase0 \\iffalse\\else g\\q",
        "\\def\\a{\\q xyz}\\a",
        "\\def\\a#1{#1\\q #1#1}\\a{xyz}",
        "\\csname abcdefghijklmnopqrstuvwxyz\\csname abcdefghijklm\\relax\\endcsname",
        "\\expandafter\\expandafter\\expandafter\\number\\count\\count\\catcode\\relax",
        "\\if\\ifnum1\\relax",
        "\\iffalse\\iftrue\\iftrue",
        "\\ifcase\\iftrue\\ifnum1=",
        "\\edef\\a{x\\edef\\b{y\\q",
        "\\def\\a#1#2.",
        "\\def\\a{x}\\def\\b{",
        "\n\n\n\n\\q\n\n\n",
        "a\\end bc\n\nd{",
        "ab cd\u007fef\ngh",
        "\\global\\global\\relax",
        "x{\\iftrue\\end}\\fi\n\\q",
        "\\let\\x=\\noexpand\\if a\\noexpand\\if",
    };

    public static void main(String[] args) {
        for (String before : BEFORE) {
            for (int ticks : new int[] {30000, 12, 3, 0}) {
                meanings(before, ticks);
                categories(before, ticks);
                rest(before, ticks);
            }
        }
        namesThatWereNotMade();
        twoRunsOfOneText();
        Check.end();
    }

    private static Press behind(String before, int ticks) {
        Press press = new Press();
        Check.type(press, before);
        press.run(ticks);
        return press;
    }

    private static void prints(Press press, String text, String out) {
        Check.type(press, text);
        Check.due("the next run, of " + text, press.run(30000), 0);
        Check.out("the next run, of " + text, press, out);
    }

    /** "A run begins with all meanings ... as at first". */
    private static void meanings(String before, int ticks) {
        Press press = behind(before, ticks);
        Check.type(press, "\\relax\\q");
        Check.due("a name means nothing behind " + before, press.run(30000), 110001);
        Check.type(press, "\\relax\n~");
        Check.due("an active character means nothing behind " + before, press.run(30000), 110002);
        Check.type(press, "\\a");
        Check.due("a macro is none behind " + before, press.run(30000), 110001);
        prints(press, "\\let\\z=\\y\\ifx\\z\\b n\\fi\\def\\a#1{(#1)}\\count5=6 \\relax\\par\\a{\\the\\count5}%", "n\n(6)");
    }

    private static void categories(String before, int ticks) {
        Press press = behind(before, ticks);
        StringBuilder text = new StringBuilder();
        String watched = "\0\t\n\r #$%&0@AZ^_`az{|}~\u007f\u0080\u00ff";
        int[] categories = {9, 10, 12, 5, 10, 6, 3, 14, 4, 12, 12, 11, 11, 7, 8, 12, 11, 11, 1, 12, 2, 13, 15, 12, 12};
        StringBuilder due = new StringBuilder();
        for (int i = 0; i < categories.length; i++) {
            text.append("\\the\\catcode").append((int) watched.charAt(i)).append(" .");
            due.append(categories[i]).append('.');
        }
        prints(press, text + "%", due.toString());
    }

    /** Counters are 0, OUT is empty, nothing is open or pending, and lines are counted anew. */
    private static void rest(String before, int ticks) {
        Press press = behind(before, ticks);
        Check.due("an empty run behind " + before, press.run(0), 0);
        Check.due("its ticks", press.ticks(), 0);
        Check.due("its size", press.size(), 0);
        for (int k : new int[] {0, 1, 2, 3, 254, 255}) {
            Check.due("its counter " + k, press.count(k), 0);
        }
        press = behind(before, ticks);
        Check.type(press, "\\the\\count1 \\the\\count0 x");
        Check.due("another run behind " + before, press.run(30000), 0);
        Check.out("another run behind " + before, press, "00x ");
        Check.due("its ticks", press.ticks(), 6);
        press = behind(before, ticks);
        Check.type(press, "}");
        Check.due("no group is open behind " + before, press.run(30000), 130001);
        press = behind(before, ticks);
        Check.type(press, "\n\\fi");
        Check.due("no condition is open behind " + before, press.run(30000), 80002);
        Check.type(press, Check.times(40, "\\expandafter\\relax") + "\\relax\\end");
        Check.due("nothing is within another behind " + before, press.run(30000), 0);
        Check.type(press, Check.times(100, "{") + Check.times(100, "}") + Check.times(20, "\\iftrue") + Check.times(20, "\\fi") + "%");
        Check.due("100 groups may be open behind " + before, press.run(30000), 0);
        press = behind(before, ticks);
        Check.type(press, Check.times(100, "\\iftrue") + Check.times(100, "\\fi") + "%");
        Check.due("100 conditions may be open behind " + before, press.run(30000), 0);
    }

    /** What 40 names within one another had when a fault ended the run leaves no less room for the next run's names. */
    private static void namesThatWereNotMade() {
        String name = Check.times(39, "n");
        Press press = new Press();
        Check.type(press, Check.times(40, "\\csname " + name) + "\\relax");
        Check.due("a fault within 40 names", press.run(30000), 60001);
        prints(press, "\\def\\" + name + "a{a}" + Check.times(5, "\\csname " + name) + "a" + Check.times(5, "\\endcsname") + "%", "a");
    }

    private static void twoRunsOfOneText() {
        for (String text : BEFORE) {
            Press press = new Press();
            Check.type(press, text);
            int answer = press.run(30000);
            int ticks = press.ticks();
            int size = press.size();
            int counter = press.count(1);
            for (int i = 0; i < 3; i++) {
                Check.type(press, text);
                Check.due("again " + text, press.run(30000), answer);
                Check.due("again " + text, press.ticks(), ticks);
                Check.due("again " + text, press.size(), size);
                Check.due("again " + text, press.count(1), counter);
            }
        }
    }
}
