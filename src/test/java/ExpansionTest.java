/** Promise 3, the expandable primitives, and the marks of tokens. */
public final class ExpansionTest {
    public static void main(String[] args) {
        expandafter();
        noexpand();
        csname();
        string();
        number();
        romannumeral();
        the();
        depth();
        Check.end();
    }

    private static void expandafter() {
        Check.printsIn(6, "\\def\\a{xy}\\expandafter\\string\\a%", "xy");
        Check.printsIn(3, "\\expandafter ab%", "ab");
        Check.prints("\\def\\a#1{(#1)}\\def\\b{xy}\\expandafter\\a\\b%", "(x)y");
        Check.prints("\\def\\a#1{(#1)}\\def\\b{xy}\\expandafter\\a\\expandafter{\\b}%", "(xy)");
        Check.prints("\\def\\a{z}\\iftrue\\expandafter\\a\\else w\\fi%", "z");
        Check.fails("\\expandafter", 90001, "");
        Check.fails("\\expandafter a%", 90001, "");
    }

    private static void noexpand() {
        Check.printsIn(3, "\\def\\a{x}\\noexpand\\a%", "");
        Check.printsIn(2, "\\noexpand x%", "x");
        Check.fails("\\noexpand\\a", 110001, "");
        Check.printsIn(5, "\\noexpand\\noexpand\\relax\\noexpand\\fi%", "");
        Check.prints("\\def\\a{x}\\if\\noexpand\\a\\relax s\\else d\\fi%", "s");
        Check.prints("\\def\\a{x}\\ifcat\\noexpand\\a~s\\else d\\fi%", "s");
        Check.prints("\\def\\a{x}\\expandafter\\ifx\\noexpand\\a\\relax s\\else d\\fi%", "s");
        Check.prints("\\def\\a{x}\\expandafter\\string\\noexpand\\a%", "\\a");
        Check.prints("\\def\\a{x}\\def\\b#1{\\let\\c=#1\\c\\a}\\expandafter\\b\\noexpand\\a%", "x");
        Check.prints("\\def\\a{x}\\def\\b#1{#1\\def\\c{#1}\\c}\\expandafter\\b\\noexpand\\a%", "x");
        Check.prints("\\def~{x}\\noexpand~\\string\\noexpand%", "\\noexpand");
        Check.prints("\\def\\a{x}\\expandafter\\noexpand\\noexpand\\a\\a%", "x");
        Check.fails("\\noexpand", 90001, "");
    }

    private static void csname() {
        Check.prints("\\def\\ab{x}\\csname ab\\endcsname\\csname a\\number`b \\endcsname%", "x");
        Check.prints("\\def\\a{b}\\def\\xby{z}\\csname x\\a y\\endcsname%", "z");
        Check.prints("\\expandafter\\def\\csname a b#1\\endcsname{z}\\csname a b#1\\endcsname%", "z");
        Check.prints("\\csname q\\endcsname\\ifx\\q\\relax s\\else d\\fi%", "s");
        Check.prints("{\\csname q\\endcsname}\\ifx\\q\\relax s\\else d\\fi%", "d");
        Check.prints("\\let\\e=\\endcsname\\csname q\\e\\string\\q%", "\\q");
        Check.prints("\\expandafter\\string\\csname\\endcsname%", "\\");
        Check.prints("\\def\\a{b}\\csname\\csname a\\endcsname\\endcsname\\ifx\\b\\relax s\\fi%", "s");
        Check.prints("\\csname relax\\endcsname\\csname par\\endcsname%", "\n");
        Check.prints("\\expandafter\\string\\csname {}$\\endcsname%", "\\{}$");
        Check.failsIn(1, "\\csname a\\relax\\endcsname", 60001);
        Check.failsIn(1, "\\csname a\\q\\endcsname", 60001);
        Check.failsIn(1, "\\csname a~\\endcsname", 60001);
        Check.failsIn(2, "\\let\\x=a\\csname\n\\x\\endcsname", 60002);
        Check.failsIn(2, "\\chardef\\x=65\\csname\\x\\endcsname", 60001);
        Check.failsIn(3, "\\def\\a{}\\csname\\noexpand\\a\\endcsname", 60001);
        Check.failsIn(1, "\\csname ab\n", 90001);
        Check.failsIn(1, "\\csname " + Check.times(40, "n") + "\\relax\\endcsname", 60001);
        Check.failsIn(1, "\\csname " + Check.times(41, "n") + "\\endcsname", 20001);
        Check.failsIn(2, "\\csname " + Check.times(40, "n") + "\\endcsname%", 0);
        Check.failsIn(1, "\\endcsname", 60001);
    }

    private static void string() {
        Check.prints("\\string\\ab\\string a\\string~\\string{\\string#\\string\\1%", "\\aba~{#\\1");
        Check.prints("\\ifcat\\string a1s\\fi\\ifcat\\string\\ab1t\\fi%", "sb1t");
        Check.prints("\\def\\a#1{(#1)}\\expandafter\\a\\string\\ %", "(\\) ");
        Check.prints("\\catcode32=12\\relax\\ifcat\\string \\string1s\\else d\\fi%", " d");
        Check.prints("\\catcode32=13\\relax\\ifcat\\string 1s\\else\\string \\fi%", " ");
        Check.fails("\\string", 90001, "");
    }

    private static void number() {
        Check.prints("\\number-007 ;\\number-0 ;\\number`a ;\\number--2147483647 %", "-7;0;97;2147483647");
        Check.prints("\\ifcat\\number1 2s\\fi\\ifcat\\number-1 2t\\fi%", "s2t");
        Check.prints("\\count1=-2147483647 \\number\\count1 %", "-2147483647");
        Check.prints("\\edef\\x{\\number-1234567890 }\\def\\y{-1234567890}\\ifx\\x\\y s\\fi%", "s");
        Check.prints("\\count2=-1 \\catcode`-=11 \\catcode`1=11\\relax\\edef\\x{\\the\\count2 }\\def\\y{-1}\\ifx\\x\\y s\\else d\\fi%", "d");
    }

    private static void romannumeral() {
        roman("0", "");
        roman("-5", "");
        roman("1", "i");
        roman("4", "iv");
        roman("9", "ix");
        roman("14", "xiv");
        roman("40", "xl");
        roman("88", "lxxxviii");
        roman("90", "xc");
        roman("400", "cd");
        roman("666", "dclxvi");
        roman("949", "cmxlix");
        roman("1994", "mcmxciv");
        roman("3999", "mmmcmxcix");
        roman("9999", "mmmmmmmmmcmxcix");
        Check.failsIn(1, "\\romannumeral10000 ", 70001);
        Check.prints("\\ifcat\\romannumeral1 2s\\fi%", "s");
        Check.prints("\\edef\\x{\\romannumeral2669 }\\edef\\y{\\string m\\string m\\string d\\string c\\string l\\string x"
                + "\\string i\\string x}\\ifx\\x\\y s\\fi%", "s");
        Check.prints("\\edef\\x{\\romannumeral448 }\\edef\\y{\\string c\\string d\\string x\\string l\\string v\\string i"
                + "\\string i\\string i}\\ifx\\x\\y s\\fi%", "s");
        Check.prints("\\edef\\x{\\romannumeral1994 }\\def\\y{mcmxciv}\\ifx\\x\\y s\\else d\\fi%", "d");
    }

    private static void roman(String number, String letters) {
        Check.prints("\\romannumeral" + number + " %", letters);
    }

    private static void the() {
        Check.prints("\\count9=-5 \\the\\count9 x\\the\\catcode`a x%", "-5x11x");
        Check.prints("\\chardef\\x=65 \\the\\x\\x%", "65A");
        Check.prints("\\def\\a{\\count1 }\\the\\a%", "0");
        Check.prints("\\let\\c=\\count\\c3=4 \\the\\c3%", "4");
        Check.fails("\\the\\relax", 60001, "");
        Check.fails("\\the1", 60001, "");
        Check.fails("\\the\\q", 60001, "");
        Check.fails("\\the\\count256 ", 70001, "");
        Check.fails("\\the\\catcode-1 ", 70001, "");
        Check.fails("\\the", 90001, "");
        Check.fails("\\the\\count%", 90001, "");
    }

    private static void depth() {
        Check.failsIn(43, "\\def\\c{\\count\\c}\\c", 30001);
        Check.printsIn(81, Check.times(40, "\\expandafter a") + "b%", Check.times(40, "a") + "b");
        Check.printsIn(81, Check.times(40, "\\expandafter\\relax") + " b%", "b");
        Check.failsIn(41, Check.times(40, "\\expandafter\\relax") + "\\number1 %", 30001);
        Check.printsIn(21, Check.times(20, "\\number") + "1 %", "1");
        Check.failsIn(21, Check.times(21, "\\number") + "1 %", 30001);
        Check.printsIn(1, "\\count1=" + Check.times(39, "\\count") + "1 %", "");
        Check.failsIn(1, "\\count1=" + Check.times(40, "\\count") + "1 %", 30001);
        nested(39, 40, "\\expandafter\\relax", "\\string a", 80);
        nested(39, 40, "\\expandafter\\relax", "\\noexpand a", 80);
        nested(39, 40, "\\expandafter\\relax", "\\iftrue\\iftrue\\fi\\fi", 82);
        nested(38, 39, "\\expandafter\\relax", "\\number1 ", 78);
        nested(38, 39, "\\expandafter\\relax", "\\the\\count1 ", 78);
        nested(37, 38, "\\expandafter\\relax", "\\number\\count1 ", 76);
        Check.failsIn(20, Check.times(20, "\\romannumeral") + "0 %", 90001);
        Check.failsIn(21, Check.times(21, "\\romannumeral") + "0 %", 30001);
        nested(20, 21, "\\the\\count", "1 ", 21);
        nested(19, 20, "\\the\\count", "\\number1 ", 21);
        Check.printsIn(83, "\\def\\a{}" + Check.times(39, "\\expandafter\\relax") + "\\a\\a\\a;%", ";");
        Check.failsIn(42, "\\def\\a{}" + Check.times(40, "\\expandafter\\relax") + "\\a", 30001);
        Check.failsIn(40, Check.times(40, "\\csname "), 90001);
        Check.failsIn(41, Check.times(41, "\\csname "), 30001);
        Check.failsIn(40, Check.times(40, "\\if") + "%", 90001);
        Check.failsIn(41, Check.times(41, "\\if"), 30001);
        Check.failsIn(20, Check.times(20, "\\ifnum") + "%", 90001);
        Check.failsIn(21, Check.times(21, "\\ifnum"), 30001);
        Check.failsIn(41, Check.times(39, "\\csname ") + "\\expandafter\\relax\\iftrue", 30001);
        Check.printsIn(301, "\\def\\a{}" + Check.times(300, "\\a") + "%", "");
        Check.failsWithin(40, Check.times(41, "\\expandafter\\relax"), 100001, "");
        Check.failsWithin(41, Check.times(41, "\\expandafter\\relax"), 30001, "");
    }

    /** So many of them one within the other around the last are no fault, and one more is fault 3. */
    private static void nested(int most, int tooMany, String outer, String last, int ticks) {
        Check.failsIn(ticks, Check.times(most, outer) + last + "%", 0);
        Check.due(outer + " " + tooMany + " times", Check.fails("%\n" + Check.times(tooMany, outer) + last, 30002, "").size(), 0);
    }
}
