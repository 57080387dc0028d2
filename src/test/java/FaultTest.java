/** Promise 3, each of the faults 1 to 13 by each of its causes, with its LINE, and which of two comes first. */
public final class FaultTest {
    private static final String[] PLACES = {"", "%\n", "a\n\n", "{%\n}%\n\\iftrue\\fi%\n\n"};
    private static final int[] LINES = {1, 2, 3, 5};
    private static final String[] OUTS = {"", "", "a \n", "\n"};

    public static void main(String[] args) {
        fault1();
        fault2();
        fault3();
        fault4();
        fault5();
        fault6();
        fault7();
        fault8();
        fault9();
        fault10();
        fault11();
        fault12();
        fault13();
        firstFaultEndsTheRun();
        ticksComeFirst();
        Check.end();
    }

    /** The text has that fault, on the first line and on later ones, and nothing more of it comes out than that. */
    private static void has(int fault, String text, String out) {
        for (int i = 0; i < PLACES.length; i++) {
            Check.fails(PLACES[i] + text + "%\n\\par x", 10000 * fault + LINES[i], OUTS[i] + out);
        }
    }

    private static void has(int fault, String text) {
        has(fault, text, "");
    }

    /** A character of category 15 that is read, wherever it is; as a name's one character, or behind 14, it is not read so. */
    private static void fault1() {
        has(1, "\u007f");
        has(1, "b\u007f", "b");
        has(1, "b \u007f", "b ");
        has(1, "\\iffalse\u007f");
        has(1, "\\def\\b#1.{}\\b\u007f.");
        has(1, "\\def\\b{\u007f}");
        has(1, "\\string\u007f");
        has(1, "\\count1=`\u007f");
        has(1, "\\count1=1\u007f");
        has(1, "\\csname\u007f\\endcsname");
        has(1, "\\let\\b=\u007f");
        has(1, "\\relax\u007f");
        has(1, "\\catcode`b=15 b");
        has(1, "\\catcode`b=15 \\catcode`\\b=11 b\\catcode`b=15 b", "b");
        has(1, "{\\catcode`b=15 }b{\\catcode`b=15 b", "b");
        Check.prints("a%\u007f", "a");
        Check.prints("a\r\u007f", "a ");
        Check.prints("\\string\\\u007f%", "\\\u007f");
        Check.prints("\\catcode127=12 \u007f%", "\u007f");
        Check.prints("\\chardef\\x=127 \\x%", "\u007f");
        Check.prints("\\end\u007f", "");
    }

    /** LimitTest and LineBoundsTest have every limit; here each has its line. */
    private static void fault2() {
        has(2, "\\" + Check.times(41, "n"));
        has(2, "\\csname " + Check.times(41, "n") + "\\endcsname");
        has(2, Check.times(101, "{"));
        has(2, Check.times(101, "\\begingroup"));
        has(2, Check.times(101, "\\iftrue"));
        has(2, "\\def\\b#1{\\b{#1#1}}\\b c");
        has(2, "\\def\\b{}\\def\\c{\\edef\\b{xxxxxxxxxxxxxxxx\\b}\\c}\\c");
        has(2, "\\def\\l{\\advance\\count1 by1 \\csname\\number\\count1\\endcsname\\l}\\l");
        Check.fails("\\catcode`b=12 a\\def\\l{bbbbbbbb\\l}%\n\\l", 20002, "a" + Check.times(7999, "b"));
    }

    private static void fault3() {
        has(3, Check.times(41, "\\expandafter\\relax") + "\\relax");
        has(3, Check.times(41, "\\csname "));
        has(3, Check.times(41, "\\if"));
        has(3, Check.times(21, "\\number"));
        has(3, Check.times(21, "\\romannumeral"));
        has(3, Check.times(21, "\\ifnum"));
        has(3, Check.times(21, "\\ifodd"));
        has(3, Check.times(21, "\\ifcase"));
        has(3, Check.times(21, "\\the\\count"));
        has(3, "\\count" + Check.times(40, "\\count") + "1=1 ");
        has(3, "\\count1=" + Check.times(40, "\\count") + "1 ");
        has(3, "\\catcode1=" + Check.times(40, "\\catcode") + "1 ");
        has(3, "\\advance\\count1 by" + Check.times(40, "\\count") + "1 ");
        has(3, "\\def\\b{\\number\\b}\\b");
        has(3, "\\def\\b{\\csname\\b}\\b");
    }

    private static void fault4() {
        has(4, "\\def\\b.{}\\b,");
        has(4, "\\def\\b.,{}\\b..");
        has(4, "\\def\\b.{}\\b\\relax");
        has(4, "\\def\\b.{}\\b~");
        has(4, "\\def\\b.{}\\b{");
        has(4, "\\def\\b.{}\\b}");
        has(4, "\\def\\b\\c{}\\b\\b");
        has(4, "\\def\\b~{}\\b.");
        has(4, "c\\def\\b.#1{}\\b,.", "c");
        has(4, "\\def~.{}~ .");
        has(4, "\\def\\b.{}\\edef\\c{\\b,}");
        has(4, "\\def\\b.{}\\expandafter\\relax\\b,");
    }

    private static void fault5() {
        has(5, "\\def\\b#1{}\\b}");
        has(5, "\\def\\b#1#2{}\\b c}");
        has(5, "\\def\\b#1.{}\\b}.");
        has(5, "\\def\\b#1.{}\\b c}.");
        has(5, "\\def\\b#1.{}\\b{c}}.");
        has(5, "{\\def\\b#1.{}\\b}");
        has(5, "\\def\\b}");
        has(5, "\\edef\\b}");
        has(5, "\\gdef\\b.}");
        has(5, "\\xdef\\b#1}");
    }

    private static void fault6() {
        String[] noCharacters = {"\\relax", "\\q", "~", "\\par", "\\csname\\endcsname", "\\noexpand\\if", "\\end", "\\def"};
        for (String token : noCharacters) {
            has(6, "\\csname " + token + "\\endcsname");
            has(6, "\\csname b" + token + "\\endcsname");
            has(6, "\\the" + token);
            has(6, "\\number" + token);
            has(6, "\\count1=-" + token);
            has(6, "\\ifnum1" + token);
            has(6, "\\advance" + token);
            if (!token.equals("\\relax") && !token.equals("\\csname\\endcsname") && !token.equals("\\noexpand\\if")
                    && !token.equals("\\def")) {
                has(6, "\\global" + token);
            }
        }
        String[] characters = {"b", ".", "{", "}", "#", "$", "&", "^", "_"};
        for (String token : characters) {
            has(6, "\\the " + token);
            has(6, "\\number " + token);
            has(6, "\\ifnum1" + token + "2 ");
            has(6, "\\ifnum1=" + token);
            has(6, "\\ifodd " + token);
            has(6, "\\ifcase " + token);
            has(6, "\\romannumeral " + token);
            has(6, "\\count " + token);
            has(6, "\\count1=" + token);
            has(6, "\\catcode " + token);
            has(6, "\\catcode65=" + token);
            has(6, "\\chardef\\b=" + token);
            has(6, "\\chardef " + token);
            has(6, "\\def " + token);
            has(6, "\\edef " + token);
            has(6, "\\gdef " + token);
            has(6, "\\xdef " + token);
            has(6, "\\let " + token);
            has(6, "\\advance " + token);
            has(6, "\\multiply " + token);
            has(6, "\\divide\\count1 by" + token);
            has(6, "\\global " + token);
        }
        has(6, "\\let\\b=c\\csname\\b\\endcsname");
        has(6, "\\chardef\\b=99 \\csname\\b\\endcsname");
        has(6, "\\count1=`\\bb ");
        has(6, "\\count1==1 ");
        has(6, "\\let\\b==\\count1\\b1 ");
        has(6, "\\let\\b=1\\count1=\\b ");
        has(6, "\\the1");
        has(6, "\\the\\catcode`\\bb ");
        has(6, "\\advance\\catcode1 by1 ");
        has(6, "\\chardef\\b=1 \\advance\\b by1 ");
        has(6, "\\advance1 by1 ");
        has(6, "\\advance\\count1 bz1 ");
        has(6, "\\global\\begingroup");
        has(6, "\\endcsname");
        has(6, "b\\endcsname", "b");
        has(6, "\\let\\b=\\endcsname\\b");
        Check.prints("\\global\\relax\\csname\\endcsname\\noexpand\\if\\def\\b{}%", "");
    }

    private static void fault7() {
        has(7, "\\number2147483648");
        has(7, "\\count1=-2147483648");
        has(7, "\\count256=1 ");
        has(7, "\\count-1=1 ");
        has(7, "\\the\\count256 ");
        has(7, "\\catcode256=1 ");
        has(7, "\\catcode-1=1 ");
        has(7, "\\catcode1=16 ");
        has(7, "\\catcode1=-1 ");
        has(7, "\\chardef\\b=256 ");
        has(7, "\\chardef\\b=-1 ");
        has(7, "\\romannumeral10000 ");
        has(7, "\\count1=2147483647 \\advance\\count1 by1 ");
        has(7, "\\count1=-2147483647 \\advance\\count1 by-1 ");
        has(7, "\\count1=2147483647 \\multiply\\count1 by2 ");
        has(7, "\\divide\\count1 by0 ");
        has(7, "\\advance\\count256 by1 ");
        has(7, "\\multiply\\count-1 by1 ");
        has(7, "b\\divide\\count256 by1 ", "b");
    }

    private static void fault8() {
        String[] words = {"\\fi", "\\else", "\\or"};
        for (String word : words) {
            has(8, word);
            has(8, "b" + word, "b");
            has(8, "\\iftrue\\fi" + word);
            has(8, "\\iffalse\\else\\fi" + word);
            has(8, "\\let\\b=" + word + "\\b");
            has(8, "\\def\\b{" + word + "}\\b");
            has(8, "\\csname" + word);
            has(8, "\\edef\\b{" + word + "}");
            has(8, "\\number1" + word);
        }
        String[] late = {"\\else", "\\or"};
        for (String word : late) {
            has(8, "\\iffalse\\else" + word + "\\fi");
            has(8, "\\ifcase1 \\else" + word + "\\fi");
            has(8, "\\ifcase-1 \\or\\or\\else b" + word + "\\fi", "b");
        }
        String[] conditions = {"\\if aa", "\\ifcat aa", "\\ifx aa", "\\ifnum1=1 ", "\\ifodd1 ", "\\iftrue"};
        for (String condition : conditions) {
            has(8, condition + "\\or\\fi");
        }
        String[] falseOnes = {"\\if ab", "\\ifcat a1", "\\ifx ab", "\\ifnum1=2 ", "\\ifodd2 ", "\\iffalse"};
        for (String condition : falseOnes) {
            has(8, condition + "\\or\\fi");
            has(8, condition + " b{}\\iftrue\\else\\fi\\or\\fi");
            has(8, condition + "\\else\\or\\fi");
        }
        Check.prints("\\iftrue\\else\\or\\else\\or\\fi\\iffalse\\ifcase0 \\or\\or\\else\\else\\or\\fi\\else\\fi%", "");
    }

    /** EndTest has every place; here the line is the last one. */
    private static void fault9() {
        Check.fails("{\n\n", 90002, " \n");
        Check.fails("\\iftrue\n\na", 90003, "\na ");
        Check.fails("\\def\\a{\n\n\n", 90003, "");
        Check.fails("\n\\def\\a#1{}\\a%\n%\n%\n%", 90005, "\n");
        Check.fails("\\count1=\n", 90001, "");
        Check.fails("{\n\\end\n\n\n", 90002, " ");
    }

    private static void fault10() {
        for (int i = 0; i < PLACES.length; i++) {
            Check.fails(PLACES[i] + "\\def\\b{\\b}\\b", 100000 + LINES[i], OUTS[i]);
            Check.fails(PLACES[i] + "\\def\\b{\\relax\\b}\\b", 100000 + LINES[i], OUTS[i]);
            Check.fails(PLACES[i] + "\\def\\b{\\b}\\edef\\c{\\b}", 100000 + LINES[i], OUTS[i]);
            Check.fails(PLACES[i] + "\\def\\b{{}\\b}\\b", 100000 + LINES[i], OUTS[i]);
        }
        Check.failsWithin(3, "a\nb\nc", 100002, "a b");
        Check.failsWithin(4, "a\nb\nc", 100003, "a b ");
        Check.failsWithin(6, "a\nb\nc", 0, "a b c ");
    }

    private static void fault11() {
        has(11, "\\q");
        has(11, "~");
        has(11, "b\\q", "b");
        has(11, "\\let\\b=\\q\\b");
        has(11, "\\let\\b=~\\b");
        has(11, "{\\def\\b{c}\\b}\\b", "c");
        has(11, "{\\csname b\\endcsname}\\b");
        has(11, "\\def\\b{\\c}\\b");
        has(11, "\\catcode`b=13 b");
        has(11, "\\noexpand\\q");
        has(11, "\\expandafter\\q\\relax");
    }

    private static void fault12() {
        has(12, "#");
        has(12, "b#", "b");
        has(12, "\\let\\b=#\\b");
        has(12, "\\def\\b{##}\\b");
        has(12, "\\catcode`b=6 b");
        has(12, "\\def\\b#2{}");
        has(12, "\\edef\\b##{}");
        has(12, "\\gdef\\b{#1}");
        has(12, "\\xdef\\b#1{#2}");
        has(12, "\\def\\b{#}");
    }

    private static void fault13() {
        has(13, "}");
        has(13, "\\endgroup");
        has(13, "{}}");
        has(13, "\\begingroup\\endgroup\\endgroup");
        has(13, "{\\endgroup");
        has(13, "\\begingroup}");
        has(13, "{\\begingroup}");
        has(13, "\\begingroup{\\endgroup");
        has(13, "{{}\\endgroup");
        has(13, "\\let\\b=}\\b");
        has(13, "\\begingroup\\let\\b=}\\b");
        has(13, "{\\let\\b=\\endgroup\\b");
        has(13, "b{c}d}", "bcd");
    }

    /** "The first fault ends it." */
    private static void firstFaultEndsTheRun() {
        String[] faults = {"\u007f", "\\endcsname", "\\count256 ", "\\fi", "\\q", "#", "}", "\\def}"};
        int[] numbers = {1, 6, 7, 8, 11, 12, 13, 6};
        for (int i = 0; i < faults.length; i++) {
            for (String second : faults) {
                Check.fails("a" + faults[i] + "\n" + second, 10000 * numbers[i] + 1, "a");
            }
        }
        Press press = Check.fails("\\count1=1 \\q\\count1=2 ", 110001, "");
        Check.due("nothing is done behind the first fault", press.count(1), 1);
    }

    /** A tick "counts before anything of it is done": what the token would do, a fault too, comes behind fault 10. */
    private static void ticksComeFirst() {
        String[] faults = {"\\q", "#", "}", "\\endgroup", "\\endcsname", "\\fi", "\\else", "\\or", "\\csname\\relax", "\\the\\relax", "\\number x",
            "\\romannumeral10000 ", "\\count256 ", "\\def}", "\\let}", "\\global}", "\\expandafter", "\\string", "\\noexpand", "\\iffalse", "\\if"};
        for (String text : faults) {
            Press press = Check.failsWithin(0, text, 100001, "");
            Check.due(text + " ticks", press.ticks(), 1);
            press = Check.failsWithin(1, "a%\n" + text, 100002, "a");
            Check.due(text + " ticks", press.ticks(), 2);
        }
        Check.failsWithin(40, Check.times(41, "\\expandafter\\relax"), 100001, "");
        Check.failsWithin(41, Check.times(41, "\\expandafter\\relax"), 30001, "");
        Check.failsWithin(40, Check.times(41, "\\csname "), 100001, "");
        Check.failsWithin(41, Check.times(41, "\\csname "), 30001, "");
        Check.failsWithin(100, Check.times(101, "{"), 100001, "");
        Check.failsWithin(101, Check.times(101, "{"), 20001, "");
        Check.failsWithin(100, Check.times(101, "\\iftrue"), 100001, "");
        Check.failsWithin(101, Check.times(101, "\\iftrue"), 20001, "");
        Check.failsWithin(1, "\u007f", 10001, "");
        Check.failsWithin(0, "\u007f", 10001, "");
        Check.failsWithin(0, "\\" + Check.times(41, "n"), 20001, "");
    }
}
