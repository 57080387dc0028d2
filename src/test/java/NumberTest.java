/** Promises 3 and 7, numbers and counters: how numbers are read, count, advance, multiply, divide, chardef. */
public final class NumberTest {
    public static void main(String[] args) {
        reading();
        characters();
        values();
        ends();
        assigning();
        advancing();
        dropping();
        characterNumbers();
        Check.end();
    }

    private static void reads(String number, long value, String out) {
        Press press = Check.fails("\\count1=" + number + "%", 0, out);
        Check.due(number, press.count(1), value);
    }

    private static void reading() {
        reads("5", 5, "");
        reads("5 ", 5, "");
        reads("5  x", 5, "x");
        reads("5x", 5, "x");
        reads("-5", -5, "");
        reads(" - + -  -5", -5, "");
        reads("--5", 5, "");
        reads("0005", 5, "");
        reads("2147483647", 2147483647, "");
        reads("-2147483647", -2147483647, "");
        reads("-00000000002147483647", -2147483647, "");
        reads("1\\iftrue2\\fi 3", 123, "");
        reads("1\\iffalse2\\else3\\fi4;", 134, ";");
        reads("1\\relax2", 1, "2");
        reads("1{2}", 1, "2");
        reads("\\number1 2 ", 12, "");
        Check.failsIn(1, "\\count1=2147483648 ", 70001);
        Check.failsIn(1, "\\count1=2147483648\u007f", 70001);
        Check.failsIn(1, "\\count1=214748364\u007f", 10001);
        Check.failsIn(1, "\\count1=-2147483648 ", 70001);
        Check.failsIn(1, "\\count1=x", 60001);
        Check.failsIn(1, "\\count1=-\\relax", 60001);
        Check.failsIn(1, "\\count1=\\q", 60001);
        Check.failsIn(1, "\\count1={", 60001);
        Check.failsIn(2, "\\catcode`7=11 \\count1=7 ", 60001);
        Check.failsIn(2, "\\catcode`-=11 \\count1=-1 ", 60001);
    }

    private static void characters() {
        reads("`a", 97, "");
        reads("`a b", 97, "b");
        reads("`ab", 97, "b");
        reads("-`a ", -97, "");
        reads("`\\a", 97, "");
        reads("`\\{ ", 123, "");
        reads("`{", 123, "");
        reads("`}", 125, "");
        reads("`#", 35, "");
        reads("`~", 126, "");
        reads("`\\~", 126, "");
        reads("` x", 32, "x");
        reads("`\\ x", 32, "x");
        reads("`\\\u00e9", 233, "");
        reads("`a\\iftrue\\fi", 97, "");
        reads("`a\\iftrue x\\fi", 97, "x");
        reads("`a\\iftrue\\fi  x", 97, "x");
        Check.prints("\\def\\a{x}\\count1=\\expandafter`\\noexpand\\a\\the\\count1%", "0");
        Check.prints("\\count1=`\\a\\the\\count1%", "0");
        Check.failsIn(1, "\\count1=`\\ab", 60001);
        Check.failsIn(3, "\\count1=\\expandafter`\\csname\\endcsname", 60001);
        Check.failsIn(1, "\\count1=`%", 90001);
        Check.failsIn(2, "\\catcode``=11 \\count1=`a", 60001);
    }

    private static void values() {
        reads("\\count2 ", 0, "");
        Check.prints("\\count2=7\\count3=2\\count1=\\count\\count3 \\the\\count1%", "7");
        Check.prints("\\count2=7 \\count1=-\\count2 \\the\\count1%", "-7");
        Check.prints("\\count2=-7 \\count1=-\\count2\\relax\\the\\count1%", "7");
        Check.prints("\\count1=\\catcode`a \\the\\count1%", "11");
        Check.prints("\\chardef\\x=66 \\count1=-\\x\\the\\count1%", "-66");
        Check.prints("\\chardef~=66 \\count1=~ \\the\\count1%", " 66");
        Check.prints("\\chardef\\x=66 \\count1=\\x\\the\\count1%", "66");
        Check.prints("\\count1=5 \\count2=\\count1x%", "x");
        Check.failsIn(1, "\\count1=\\count256 ", 70001);
        Check.failsIn(1, "\\count1=\\catcode-1 ", 70001);
        Check.failsIn(1, "\\count1=\\count\\relax", 60001);
        Check.failsIn(3, "\\def\\a{}\\count1=\\noexpand\\a", 60001);
    }

    private static void ends() {
        Check.failsIn(1, "\\count", 90001);
        Check.failsIn(1, "\\count1%", 90001);
        Check.failsIn(1, "\\count1=%", 90001);
        Check.failsIn(1, "\\count1=-%", 90001);
        Check.failsIn(1, "\\count1=\\count%", 90001);
        Check.failsIn(1, "\\count1=1%", 0);
        Check.failsIn(1, "\\count1=`1%", 0);
        Check.failsIn(1, "\\count1=\\count1%", 0);
        Check.failsIn(2, "\\count1=1\\string%", 90001);
        Check.failsIn(2, "\\number1%", 0);
        Check.failsIn(1, "\\advance\\count1%", 90001);
        Check.failsIn(1, "\\advance\\count1 b%", 90001);
        Check.failsIn(1, "\\advance\\count1 by%", 90001);
        Check.failsIn(1, "\\advance", 90001);
        Check.failsIn(1, "\\chardef\\a%", 90001);
        Check.failsIn(1, "\\global", 90001);
    }

    private static void assigning() {
        Check.prints("\\count1 5 \\the\\count1%", "5");
        Check.prints("\\count1   =  5 \\the\\count1%", "5");
        Check.prints("\\def\\e{ = }\\count1\\e5 \\the\\count1%", "5");
        Check.prints("\\count`a=5 \\the\\count97%", "5");
        Check.prints("\\count1=2\\count\\count1=5 \\the\\count2%", "5");
        Check.prints("\\count1=1{\\count1=2{\\count1=3\\count1=4}\\the\\count1}\\the\\count1%", "21");
        Check.fails("\\count1==5 ", 60001, "");
        Check.fails("\\catcode`==11 \\count1=5 ", 60001, "");
        Check.fails("\\count256=1 ", 70001, "");
        Check.fails("\\count-1=1 ", 70001, "");
        Check.fails("\\catcode256=1 ", 70001, "");
        Check.fails("\\catcode65=16 ", 70001, "");
        Check.fails("\\catcode65=-1 ", 70001, "");
        Check.prints("\\catcode65=0 \\the\\catcode65 \\catcode65 15 \\the\\catcode65 %", "015");
    }

    private static void becomes(long begin, String change, long end) {
        Press press = Check.fails("\\count1=" + begin + " " + change + " %", 0, "");
        Check.due(change, press.count(1), end);
    }

    private static void advancing() {
        becomes(5, "\\advance\\count1 by-7", -2);
        becomes(5, "\\advance\\count1\\count1", 10);
        becomes(5, "\\multiply\\count1 by-4", -20);
        becomes(7, "\\divide\\count1 by2", 3);
        becomes(-7, "\\divide\\count1 by2", -3);
        becomes(7, "\\divide\\count1 by-2", -3);
        becomes(-7, "\\divide\\count1 by-2", 3);
        becomes(-2147483647, "\\divide\\count1 by-1", 2147483647);
        becomes(2147483646, "\\advance\\count1 by1", 2147483647);
        becomes(-2147483646, "\\advance\\count1 by-1", -2147483647);
        becomes(65536, "\\multiply\\count1 by32767", 2147418112);
        Check.failsIn(2, "\\count1=2147483647 \\advance\\count1 by1 ", 70001);
        Check.failsIn(2, "\\count1=-2147483647 \\advance\\count1 by-1 ", 70001);
        Check.failsIn(2, "\\count1=65536 \\multiply\\count1 by32768 ", 70001);
        Check.failsIn(2, "\\count1=2147483647 \\multiply\\count1 by2147483647 ", 70001);
        Check.failsIn(1, "\\divide\\count1 by0 ", 70001);
        Check.failsIn(1, "\\advance\\count256 by1 ", 70001);
        Check.failsIn(1, "\\advance\\catcode1 by1 ", 60001);
        Check.failsIn(1, "\\advance1 ", 60001);
        Check.failsIn(1, "\\advance\\q", 60001);
        Press press = Check.fails("\\count1=9 \\divide\\count1 by0 ", 70001, "");
        Check.due("a fault leaves the counter", press.count(1), 9);
        Check.prints("\\count1=1{\\advance\\count1 by1 \\the\\count1}\\the\\count1 {\\global\\advance\\count1by4}\\the\\count1%",
                "215");
    }

    private static void dropping() {
        becomes(1, "\\advance  \\count1   by   2", 3);
        becomes(1, "\\advance\\count1 BY2", 3);
        becomes(1, "\\advance\\count1 bY2", 3);
        becomes(1, "\\advance\\count1 By2", 3);
        becomes(1, "\\catcode`b=12 \\catcode`y=3 \\advance\\count1 by2", 3);
        becomes(1, "\\def\\x{by}\\advance\\count1\\x2", 3);
        becomes(1, "\\advance\\count1-2", -1);
        becomes(1, "\\advance\\count1   2", 3);
        becomes(1, "\\let\\c=\\count\\advance\\c1 by2", 3);
        Check.failsIn(1, "\\advance\\count1 b 2", 60001);
        Check.failsIn(1, "\\advance\\count1 bx2", 60001);
        Check.failsIn(1, "\\advance\\count1 b\\x", 60001);
        Check.failsIn(1, "\\advance\\count1 y2", 60001);
        Check.failsIn(2, "\\let\\b=b\\advance\\count1 \\b y2", 60001);
        Check.failsIn(2, "\\catcode`b=13 \\advance\\count1 by2", 60001);
    }

    private static void characterNumbers() {
        Check.prints("\\chardef\\x=65 \\x\\chardef\\y`z \\y\\chardef~ = 0 ~%", "Az\0");
        Check.prints("\\chardef\\x255 \\x\\number\\x%", "\u00ff255");
        Check.prints("\\chardef\\x=1 {\\chardef\\x=2 \\the\\x}\\the\\x{\\global\\chardef\\x=3 }\\the\\x%", "213");
        Check.fails("\\chardef\\x=256 ", 70001, "");
        Check.fails("\\chardef\\x=-1 ", 70001, "");
        Check.fails("\\chardef x=1 ", 60001, "");
        Check.fails("\\chardef\\x=\\relax", 60001, "");
    }
}
