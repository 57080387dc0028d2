/** Promise 3, the limits of the document: what just fits, and fault 2, 3 or 10 for one more. */
public final class LimitTest {
    private static final String TO_PUT = "\\let~=\\relax\\def\\y#1#2#3{#1" + Check.times(9, "#2") + "#3}";

    public static void main(String[] args) {
        out();
        openGroups();
        openConditions();
        namesRead();
        namesMade();
        namesOfEachRun();
        pendingBehindMacros();
        pendingBehindPrimitives();
        delimitedArguments();
        undelimitedArguments();
        eachArgumentCountsAlone();
        bodies();
        delimitersAndPlaces();
        bodiesOfEachRun();
        ticks();
        manySettings();
        Check.end();
    }

    private static void out() {
        String text = "\\def\\x{aaaaaaaaaa}\\def\\y{" + Check.times(10, "\\x") + "}\\def\\z{" + Check.times(10, "\\y") + "}"
                + Check.times(8, "\\z");
        Check.printsIn(8891, text + "%", Check.times(8000, "a"));
        Check.fails(text + "%\nb", 20002, Check.times(8000, "a"));
        Check.fails(text + "%\n\n", 20002, Check.times(8000, "a"));
        Check.fails(text + "%\n\\relax{}%", 0, Check.times(8000, "a"));
        Check.fails(text + "%\n\\q", 110002, Check.times(8000, "a"));
    }

    /** "More than 100 open groups: FAULT 2." Both kinds are groups, and those that are closed are not open. */
    private static void openGroups() {
        Check.printsIn(198, Check.times(99, "{") + Check.times(99, "}") + "%", "");
        Check.printsIn(200, Check.times(100, "{") + Check.times(100, "}") + "%", "");
        Check.failsIn(101, Check.times(100, "{") + "%\n{", 20002);
        Check.printsIn(200, Check.times(100, "\\begingroup") + Check.times(100, "\\endgroup") + "%", "");
        Check.failsIn(101, Check.times(101, "\\begingroup"), 20001);
        Check.failsIn(101, Check.times(100, "\\begingroup") + "{", 20001);
        Check.failsIn(101, Check.times(50, "{\\begingroup") + "\\begingroup", 20001);
        Check.printsIn(396, Check.times(49, "{\\begingroup") + Check.times(100, "{}") + Check.times(49, "\\endgroup}") + "%", "");
        Check.failsIn(301, Check.times(100, "{}") + Check.times(101, "{"), 20001);
        Check.counts("\\count1=1 " + Check.times(100, "{\\advance\\count1 by1 ") + "\\global\\count2=\\count1 "
                + Check.times(100, "}") + "%", 2, 101);
        Check.counts("\\count1=1 " + Check.times(100, "{\\advance\\count1 by1 ") + Check.times(100, "}") + "%", 1, 1);
    }

    /** "More than 100 open conditions: FAULT 2." Conditions in what is dropped, and those that are over, are not open. */
    private static void openConditions() {
        Check.printsIn(200, Check.times(100, "\\iftrue") + Check.times(100, "\\fi") + "%", "");
        Check.failsIn(101, Check.times(100, "\\iftrue") + "%\n\\iftrue", 20002);
        Check.failsIn(101, Check.times(100, "\\iftrue") + "\\iffalse\\fi", 20001);
        Check.failsIn(101, Check.times(100, "\\iftrue") + "\\ifnum x", 20001);
        Check.failsIn(101, Check.times(100, "\\ifcase0 ") + "\\ifcase0 ", 20001);
        Check.printsIn(200, Check.times(100, "\\iffalse\\else") + Check.times(100, "\\fi") + "%", "");
        Check.failsIn(101, Check.times(100, "\\iffalse\\else") + "\\iftrue", 20001);
        Check.printsIn(200, Check.times(99, "\\iftrue") + Check.times(1, "\\iffalse\\else\\fi") + Check.times(99, "\\fi") + "%", "");
        Check.printsIn(1, "\\iffalse" + Check.times(150, "\\iftrue") + Check.times(151, "\\fi") + "%", "");
        Check.printsIn(2, "\\iftrue\\else" + Check.times(150, "\\iftrue") + Check.times(151, "\\fi") + "%", "");
        Check.printsIn(400, Check.times(200, "\\iftrue\\fi") + "%", "");
        Check.printsIn(201, "\\if" + Check.times(99, "\\iftrue") + " aa" + Check.times(100, "\\fi") + " x%", "x");
        Check.failsIn(101, "\\if" + Check.times(100, "\\iftrue") + " aa", 20001);
    }

    /** So many names of a letter and a capital one, each with its 92; no primitive's name is among them. */
    private static String names(int n) {
        StringBuilder names = new StringBuilder();
        for (int i = 0; i < n; i++) {
            int first = i / 26;
            names.append('\\').append((char) (first < 26 ? 'a' + first : 'A' + first - 26)).append((char) ('A' + i % 26));
        }
        return names.toString();
    }

    /** "More than 1000 different names, the primitives' not counted, that were read": "FAULT 2, when the last one is read". */
    private static void namesRead() {
        Check.failsIn(1, "\\iffalse" + names(999) + "\\fi%", 0);
        Check.failsIn(2, "\\iffalse" + names(1000) + "\\fi\\relax%", 0);
        Check.failsIn(1, "\\iffalse" + names(1000) + "%\n\\q\\fi%", 20002);
        Check.failsIn(1, "\\iffalse" + names(1000) + "%\n%\n\\1", 20003);
        Check.failsIn(1, "\\iffalse" + names(1000) + "\\aA\\bB\\zZ\\csname\\endcsname\\divide\\par\\fi%", 0);
        Check.failsIn(2, "\\iffalse" + names(1000) + "\\fi\\aA", 110001);
        Check.failsIn(1, "\\iffalse" + names(1000) + "\\fi\\q", 20001);
        Check.failsIn(3, "\\iffalse" + names(1000) + "\\fi\\let~=a~%", 0);
        Check.failsIn(2, "\\iffalse" + names(1000) + "\\fi\\def\\q{}", 20001);
        Check.failsIn(2, "\\iffalse" + names(1000) + "\\fi\\string\\q", 20001);
        Check.failsIn(2, "\\iffalse" + names(1000) + "\\fi\\count1=`\\q", 20001);
    }

    /** A loop that makes so many names by csname; its own, l, is one more. */
    private static String makingNames(int n, String first) {
        return "\\def\\l{\\ifnum\\count1<" + n + " \\advance\\count1 by1 \\csname " + first + "\\number\\count1\\endcsname"
                + "\\expandafter\\l\\fi}\\l ";
    }

    private static void namesMade() {
        Check.fails(makingNames(999, "n") + "\\l\\relax\\csname n7\\endcsname%", 0, "");
        Check.fails(makingNames(1000, "n"), 20001, "");
        Check.fails(makingNames(999, "n") + "%\n\\q", 20002, "");
        Check.fails(makingNames(999, "n") + "%\n\\iffalse\\q", 20002, "");
        Check.fails(makingNames(999, "n") + "\\def~{x}~\\csname\\endcsname", 20001, "x");
        Check.fails(makingNames(999, "n") + "\\csname par\\endcsname\\csname n999\\endcsname%", 0, "\n");
        Check.fails(makingNames(998, "n") + "%\n\\q", 110002, "");
        String longName = Check.times(36, "n");
        Check.fails("\\count1=1000 " + makingNames(1999, longName) + "%", 0, "");
        Check.fails("\\count1=1000 " + makingNames(2000, longName) + "%", 20001, "");
        Check.fails("\\count1=1000 " + makingNames(1999, longName) + "\\expandafter\\string\\csname " + longName
                + "1999\\endcsname%", 0, "\\" + longName + "1999");
        Press press = Check.fails(makingNames(1000, "n"), 20001, "");
        Check.due("the loop's last name", press.count(1), 1000);
        Check.failsIn(3, "\\iffalse" + names(1000) + "\\fi\\csname bB\\endcsname%", 0);
        Check.failsIn(2, "\\iffalse" + names(1000) + "\\fi\\csname b%\nC%\nC\\endcsname%", 20003);
    }

    private static void namesOfEachRun() {
        Press press = new Press();
        String[] firsts = {"n", "m", "o", "n"};
        for (String first : firsts) {
            Check.type(press, makingNames(999, first));
            Check.due("names are counted anew in each run", press.run(30000), 0);
            Check.type(press, makingNames(1000, first));
            Check.due("names are counted anew in each run", press.run(30000), 20001);
        }
    }

    /** Puts so many tokens by one expansion: the head's, and behind it tokens ~ that mean relax. Three ticks. */
    private static String pending(String head, int headTokens, int tokens) {
        return TO_PUT + put(head, headTokens, tokens);
    }

    private static String put(String head, int headTokens, int tokens) {
        int left = tokens - headTokens;
        return "\\y{" + head + "}{" + Check.times(left / 9, "~") + "}{" + Check.times(left % 9, "~") + "}";
    }

    /** "More than 10000 pending tokens behind an expansion: FAULT 2." */
    private static void pendingBehindMacros() {
        Check.failsIn(10002, pending("", 0, 9999) + "%", 0);
        Check.failsIn(10003, pending("", 0, 10000) + "%", 0);
        Check.failsIn(3, pending("", 0, 10001), 20001);
        Check.failsIn(3, pending("", 0, 10009), 20001);
        String begin = "\\let~=\\relax\\def\\y#1{" + Check.times(10, "#1");
        String argument = "{" + Check.times(1000, "~") + "}";
        Check.printsIn(10003, begin + "}\\y" + argument + "%", "");
        Check.failsIn(3, begin + "~}\\y" + argument, 20001);
        Check.failsIn(4, begin + "}\\expandafter~\\y" + argument, 20001);
        Check.failsIn(15, "\\def\\x#1{\\x{#1#1}}\\x a", 20001);
        Check.failsIn(20006, pending("", 0, 10000) + "\\y{}{" + Check.times(1111, "~") + "}~%\n\\relax\\relax", 0);
    }

    /** What is put by a primitive counts as what a macro puts; what it got is no longer pending. */
    private static void pendingBehindPrimitives() {
        Check.failsIn(10004, pending("\\string\\q", 2, 10000) + "%", 0);
        Check.failsIn(4, pending("\\string\\qq", 2, 10000), 20001);
        Check.failsIn(10004, pending("\\string\\qq", 2, 9999) + "%", 0);
        Check.failsIn(10005, "\\count1=100 " + pending("\\the\\count1", 3, 10000) + "%", 0);
        Check.failsIn(5, "\\count1=1000 " + pending("\\the\\count1", 3, 10000), 20001);
        Check.failsIn(10005, "\\count1=-10 " + pending("\\number\\count1", 3, 10000) + "%", 0);
        Check.failsIn(5, "\\count1=-100 " + pending("\\number\\count1", 3, 10000), 20001);
        Check.failsIn(10004, pending("\\romannumeral2", 2, 10000) + "%", 0);
        Check.failsIn(4, pending("\\romannumeral3", 2, 10000), 20001);
        Check.failsIn(10004, pending("\\romannumeral8", 2, 9998) + "%", 0);
        Check.failsIn(4, pending("\\romannumeral8", 2, 9999), 20001);
        Check.failsIn(10002, pending("\\csname q\\endcsname", 3, 10000) + "%", 0);
        Check.failsIn(10006, "\\def\\z{~~}" + pending("\\expandafter~\\z", 3, 10000) + "%", 0);
        Check.failsIn(6, "\\def\\z{~~~}" + pending("\\expandafter~\\z", 3, 10000), 20001);
    }

    /** Makes z's argument of so many tokens, its delimiter among them. */
    private static String delimited(int tokens) {
        return "\\def\\z#1.{}" + pending("\\z", 1, 9500) + Check.times(tokens - 9500, "~") + ".";
    }

    /** "More than 10000 tokens got for one argument, its braces and delimiters too: FAULT 2." */
    private static void delimitedArguments() {
        Check.failsIn(5, delimited(9999) + "%", 0);
        Check.failsIn(5, delimited(10000) + "%", 0);
        Check.failsIn(5, delimited(10001) + "%", 20001);
        String begin = "\\let~=\\relax\\def\\z#1.{}\\def\\v#1..{}\\def\\w#1{}\\def\\y#1#2{" + Check.times(9, "#1") + "#2}";
        String most = "{" + Check.times(1000, "~") + "}{" + Check.times(998, "~") + "}";
        Check.failsIn(9, begin + "\\expandafter\\z\\expandafter~\\y" + most + ".%", 0);
        Check.failsIn(9, begin + "\\expandafter\\z\\expandafter~\\y" + most + "~.%", 20001);
        Check.failsIn(9, begin + "\\expandafter\\z\\expandafter~\\y" + most + "%\n~%\n.%", 20003);
        Check.failsIn(9, begin + "\\expandafter\\v\\expandafter~\\y" + most + ".%\n.%", 20002);
        Check.failsIn(9, begin + "\\expandafter\\z\\expandafter~\\y" + most + "~%", 90001);
        Check.failsIn(9, begin + "\\expandafter\\z\\expandafter~\\y" + most + "%\n%", 90002);
        Check.failsIn(9, begin + "\\expandafter\\z\\expandafter{\\y" + most + "%\n}.%", 20002);
        Check.failsIn(9, begin + "\\expandafter\\w\\expandafter{\\y" + most + "}%", 0);
        Check.failsIn(9, begin + "\\expandafter\\w\\expandafter{\\y" + most + "~}%", 20001);
        Check.failsIn(9, begin + "\\expandafter\\w\\expandafter{\\y" + most + "%\n", 90001);
    }

    /** Makes w's argument of so many tokens, its braces among them. */
    private static String undelimited(int tokens) {
        return "\\def\\w#1{}" + TO_PUT + "\\expandafter\\w\\expandafter{" + put("", 0, 9500) + Check.times(tokens - 9502, "~")
                + "}";
    }

    private static void undelimitedArguments() {
        Check.failsIn(7, undelimited(9999) + "%", 0);
        Check.failsIn(7, undelimited(10000) + "%", 0);
        Check.failsIn(7, undelimited(10001) + "%", 20001);
    }

    private static void eachArgumentCountsAlone() {
        String begin = "\\def\\z#1.#2.{}" + pending("\\z", 1, 9501);
        Check.failsIn(5, begin + ".%\n" + Check.times(1500, "x") + ".%", 0);
        Check.failsIn(5, begin + Check.times(499, "~") + "." + Check.times(1200, "x") + ".%", 0);
        Check.failsIn(5, begin + Check.times(500, "~") + ".%", 20001);
        Check.failsIn(30001, "\\def\\x#1{\\x{#1}}\\x{" + Check.times(100, "a") + "}", 100001);
    }

    /** "More than 10000 tokens of bodies and delimiters in all (parameters and their places count 1) in a run: FAULT 2." */
    private static void bodies() {
        String begin = "\\def\\y#1{" + Check.times(9, "#1") + "}\\edef\\b{\\y{" + Check.times(1110, "a") + "}";
        String most = begin + "}";
        Check.failsIn(3, most + "%", 0);
        Check.failsIn(5, most + "\\def\\c{}\\c%", 0);
        String[] definitions = {"\\def\\c{x}", "\\edef\\c{x}", "\\gdef\\c{x}", "\\xdef\\c{x}", "\\global\\def\\c{x}", "\\def\\b{x}",
            "\\def\\c x{}", "\\def\\c#1{}", "\\def\\c{{}}", "\\def\\c{##}", "\\def\\c{\\relax}", "\\def\\c{~}", "\\def~{ }"};
        for (String definition : definitions) {
            Check.failsIn(4, most + "%\n" + definition + "%", 20002);
        }
        Check.failsIn(3, begin + "b}%", 20001);
        Check.failsIn(3, begin + "%\nb\u007f", 20002);
        Check.failsIn(6, most + "\\let\\c=\\b\\chardef\\d=7 \\count1=5 %", 0);
        Check.failsIn(19990, "\\def\\b{x}\\def\\l{\\def\\a{x}\\l}\\l", 20001);
        Check.failsWithin(30000, "\\def\\l{\\def\\a{}\\l}\\l", 100001, "");
    }

    private static void delimitersAndPlaces() {
        String begin = "\\def\\y#1{" + Check.times(9, "#1") + "}\\edef\\b{\\y{" + Check.times(1109, "a") + "}}";
        Check.failsIn(4, begin + "\\def\\c#1#2.#3{#1#1##{}}%", 0);
        Check.failsIn(4, begin + "\\def\\c#1#2.#3{#1#1##{}%\nx}%", 20002);
        Check.failsIn(4, begin + "\\def\\c#1#2.#3#4{#1#1##{}}%", 20001);
        Check.failsIn(4, begin + "\\def\\c " + Check.times(9, "x") + "{}%", 0);
        Check.failsIn(4, begin + "\\def\\c " + Check.times(10, "x") + "{}%", 20001);
        Check.failsIn(4, begin + "\\def\\c#1#2#3#4#5#6#7#8#9{}%", 0);
        Check.failsIn(4, begin + "\\def\\c#1#2#3#4#5#6#7#8#9{#9}%", 20001);
        Check.failsIn(5, begin + "\\edef\\c{\\number123456789 }%", 0);
        Check.failsIn(5, begin + "\\edef\\c{\\number1234567890 }%", 20001);
        Check.failsIn(13, begin + Check.times(9, "\\def\\c{x}") + "\\def\\c{}%", 0);
        Check.failsIn(13, begin + Check.times(9, "\\def\\c{x}") + "\\def\\c{x}%", 20001);
        Check.failsIn(9, begin + "{\\def\\c{xxxx}\\edef\\c{xxxxx}}\\def\\c{}\\c%", 0);
        Check.failsIn(8, begin + "{\\def\\c{xxxx}\\edef\\c{xxxxx}}%\n\\def\\c{x}%", 20002);
    }

    private static void bodiesOfEachRun() {
        Press press = new Press();
        for (int i = 0; i < 3; i++) {
            Check.type(press, "\\def\\y#1{" + Check.times(9, "#1") + "}\\edef\\b{\\y{" + Check.times(1000, "a") + "}}%");
            Check.due("bodies are counted anew in each run", press.run(30000), 0);
        }
    }

    private static void ticks() {
        Check.failsWithin(30000, "\\def\\x{\\x}\\x", 100001, "");
        Check.failsIn(30001, "\\def\\x{\\x}\\x", 100001);
        Check.failsIn(30001, "\\def\\x{\\relax\\x}\\x", 100001);
        Check.failsWithin(50, "\\def\\x{a\\x}\\x", 100001, Check.times(24, "a"));
        Check.failsWithin(3, "\\number1 %", 0, "1");
        Check.failsWithin(1, "\\number1 %", 100001, "");
        Check.failsWithin(0, "\\number1 %", 100001, "");
    }

    /** Settings of all kinds within a group, again and again, local and global by turns. */
    private static void manySettings() {
        Press press = Check.fails("{\\def\\x{\\count1=1\\global\\count1=2\\x}\\x", 100001, "");
        Check.due("what was set globally", press.count(1), 2);
        press = Check.fails("\\count1=7{\\def\\x{\\advance\\count1 by1\\relax{\\count1=3}\\x}\\x", 100001, "");
        Check.due("what was set in the group alone", press.count(1), 7);
        StringBuilder settings = new StringBuilder();
        for (int k = 0; k < 250; k++) {
            settings.append("\\c").append(k).append("=1 ");
        }
        press = Check.fails("\\let\\c=\\count\\let\\b={\\def\\x{" + settings + "\\b\\x}\\x", 20001, "");
        Check.due("a counter of 100 groups", press.count(249), 1);
        press = new Press();
        for (int i = 0; i < 6; i++) {
            Check.type(press, "\\def\\x{\\count1=1\\relax{\\count1=2\\count2=3}\\x}\\x");
            Check.due("run after run of settings", press.run(30000), 100001);
            Check.due("run after run of settings", press.count(1), 1);
            Check.type(press, "\\count1=7 {\\def\\x{\\global\\count1=3 \\count1=4 \\x}\\x");
            Check.due("run after run of global settings", press.run(30000), 100001);
            Check.due("run after run of global settings", press.count(1), 3);
        }
    }
}
