/** Promise 3, the limits of the document: what just fits, and fault 2, 3 or 10 for one more. */
public final class LimitTest {
    public static void main(String[] args) {
        out();
        openGroups();
        openConditions();
        names();
        pending();
        arguments();
        definitions();
        ticks();
        manySettings();
        lines();
        Check.end();
    }

    private static void out() {
        String text = "\\def\\x{aaaaaaaaaa}\\def\\y{" + Check.times(10, "\\x") + "}\\def\\z{" + Check.times(10, "\\y") + "}"
                + Check.times(8, "\\z");
        Check.printsIn(8891, text + "%", Check.times(8000, "a"));
        Check.fails(text + "%\nb", 20002, Check.times(8000, "a"));
        Check.fails(text + "%\n\n", 20002, Check.times(8000, "a"));
    }

    private static void openGroups() {
        Check.printsIn(200, Check.times(100, "{") + Check.times(100, "}") + "%", "");
        Check.failsIn(101, Check.times(101, "{"), 20001);
        Check.printsIn(200, Check.times(100, "\\begingroup") + Check.times(100, "\\endgroup") + "%", "");
        Check.failsIn(101, Check.times(100, "\\begingroup") + "{", 20001);
        Check.failsIn(301, Check.times(100, "{}") + Check.times(101, "{"), 20001);
    }

    private static void openConditions() {
        Check.printsIn(200, Check.times(100, "\\iftrue") + Check.times(100, "\\fi") + "%", "");
        Check.failsIn(101, Check.times(101, "\\iftrue"), 20001);
        Check.failsIn(101, Check.times(100, "\\iftrue") + "\\iffalse\\fi", 20001);
        Check.printsIn(1, "\\iffalse" + Check.times(150, "\\iftrue") + Check.times(151, "\\fi") + "%", "");
    }

    /** A loop that makes so many names by csname; its own, l, is one more. */
    private static String makingNames(int n) {
        return "\\def\\l{\\ifnum\\count1<" + n + " \\advance\\count1 by1 \\csname n\\number\\count1\\endcsname"
                + "\\expandafter\\l\\fi}\\l ";
    }

    private static void names() {
        Check.fails(makingNames(999) + "\\l\\relax\\csname n7\\endcsname%", 0, "");
        Check.fails(makingNames(1000), 20001, "");
        Check.fails(makingNames(999) + "%\n\\q", 20002, "");
        Check.fails(makingNames(999) + "%\n\\iffalse\\q", 20002, "");
        Check.fails(makingNames(999) + "\\def~{x}~\\csname\\endcsname", 20001, "x");
        Check.fails(makingNames(998) + "%\n\\q", 110002, "");
        MacroPress press = Check.fails(makingNames(1000), 20001, "");
        Check.due("the loop's last name", press.count(1), 1000);
        Check.type(press, makingNames(999));
        Check.due("names are counted anew in each run", press.run(30000), 0);
    }

    private static void pending() {
        String begin = "\\let~=\\relax\\def\\y#1{" + Check.times(10, "#1");
        String argument = "{" + Check.times(1000, "~") + "}";
        Check.printsIn(10003, begin + "}\\y" + argument + "%", "");
        Check.failsIn(3, begin + "~}\\y" + argument, 20001);
        Check.failsIn(4, begin + "}\\expandafter~\\y" + argument, 20001);
        Check.failsIn(15, "\\def\\x#1{\\x{#1#1}}\\x a", 20001);
    }

    private static void arguments() {
        String begin = "\\let~=\\relax\\def\\z#1.{}\\def\\w#1{}\\def\\y#1#2{" + Check.times(9, "#1") + "#2}";
        String most = "{" + Check.times(1000, "~") + "}{" + Check.times(998, "~") + "}";
        Check.failsIn(8, begin + "\\expandafter\\z\\expandafter~\\y" + most + ".%", 0);
        Check.failsIn(8, begin + "\\expandafter\\z\\expandafter~\\y" + most + "~.%", 20001);
        Check.failsIn(8, begin + "\\expandafter\\z\\expandafter~\\y" + most + "~%", 90001);
        Check.failsIn(8, begin + "\\expandafter\\z\\expandafter~\\y" + most + "%\n%", 90002);
        Check.failsIn(8, begin + "\\expandafter\\w\\expandafter{\\y" + most + "}%", 0);
        Check.failsIn(8, begin + "\\expandafter\\w\\expandafter{\\y" + most + "~}%", 20001);
        Check.failsIn(8, begin + "\\expandafter\\w\\expandafter{\\y" + most + "%\n", 90001);
    }

    private static void definitions() {
        String begin = "\\def\\y#1{" + Check.times(9, "#1") + "}\\edef\\b{\\y{" + Check.times(1110, "a") + "}";
        String most = begin + "}";
        Check.failsIn(3, most + "%", 0);
        Check.failsIn(5, most + "\\def\\c{}\\c%", 0);
        Check.failsIn(4, most + "\\def\\c{x}%", 20001);
        Check.failsIn(4, most + "\\def\\c x{}%", 20001);
        Check.failsIn(4, most + "\\def\\c#1{}%", 20001);
        Check.failsIn(4, most + "\\def\\c{{}}%", 20001);
        Check.failsIn(3, begin + "b}%", 20001);
        Check.failsIn(3, begin + "%\nb\u007f", 20002);
        Check.failsIn(19990, "\\def\\b{x}\\def\\l{\\def\\a{x}\\l}\\l", 20001);
        Check.failsWithin(30000, "\\def\\l{\\def\\a{}\\l}\\l", 100001, "");
    }

    private static void ticks() {
        Check.failsWithin(30000, "\\def\\x{\\x}\\x", 100001, "");
        Check.failsIn(30001, "\\def\\x{\\x}\\x", 100001);
        Check.failsIn(30001, "\\def\\x{\\relax\\x}\\x", 100001);
        Check.failsWithin(50, "\\def\\x{a\\x}\\x", 100001, Check.times(24, "a"));
        Check.failsWithin(3, "\\number1 %", 0, "1");
        Check.failsWithin(1, "\\number1 %", 100001, "");
        Check.failsWithin(0, "\\number1 %", 100001, "");
    }

    /** Settings of all kinds within a group, again and again, local and global by turns. */
    private static void manySettings() {
        MacroPress press = Check.fails("{\\def\\x{\\count1=1\\global\\count1=2\\x}\\x", 100001, "");
        Check.due("what was set globally", press.count(1), 2);
        press = Check.fails("\\count1=7{\\def\\x{\\advance\\count1 by1\\relax{\\count1=3}\\x}\\x", 100001, "");
        Check.due("what was set in the group alone", press.count(1), 7);
        StringBuilder settings = new StringBuilder();
        for (int k = 0; k < 250; k++) {
            settings.append("\\c").append(k).append("=1 ");
        }
        press = Check.fails("\\let\\c=\\count\\let\\b={\\def\\x{" + settings + "\\b\\x}\\x", 20001, "");
        Check.due("a counter of 100 groups", press.count(249), 1);
    }

    private static void lines() {
        Check.fails(Check.times(3999, "\n") + "}", 134000, Check.times(3999, "\n"));
        Check.fails(Check.times(4000, "\n"), 0, Check.times(4000, "\n"));
    }
}
