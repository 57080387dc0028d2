/** Promise 3, boundaries of reading: lines and the spaces at their ends, states, names of no to 41 characters. */
public final class LineBoundsTest {
    public static void main(String[] args) {
        howManyLines();
        lineOfTheFault();
        spacesAtLineEnds();
        otherBytesAtLineEnds();
        statesAtLineBegins();
        shortNames();
        longNames();
        namesByCsname();
        statesBehindNames();
        Check.end();
    }

    /** "LINES are what stands between bytes 10 (behind the last 10 there is a line only if something is there)". */
    private static void howManyLines() {
        Check.printsIn(0, "", "");
        Check.printsIn(1, "\n", "\n");
        Check.printsIn(2, "\n\n", "\n\n");
        Check.printsIn(2, "\n ", "\n\n");
        Check.fails("{", 90001, " ");
        Check.fails("{\n", 90001, " ");
        Check.fails("{\n\n", 90002, " \n");
        Check.fails("{\n ", 90002, " \n");
        Check.fails("{\n%", 90002, " ");
        Check.fails("{\n\0", 90002, " \n");
        Check.fails("{%\n%\n%", 90003, "");
        Check.fails("{%\n%\n%\n", 90003, "");
        Check.fails("\n{", 90002, "\n ");
        Check.fails(Check.times(3999, "\n") + "}", 134000, Check.times(3999, "\n"));
        Check.fails(Check.times(3998, "\n") + "}\n", 133999, Check.times(3998, "\n"));
        Check.fails(Check.times(4000, "\n"), 0, Check.times(4000, "\n"));
        Check.fails(Check.times(4000, "a"), 0, Check.times(4000, "a") + " ");
        Check.fails(Check.times(4000, " "), 0, "\n");
        Check.fails(Check.times(4000, "\0"), 0, "\n");
        Check.fails(Check.times(4000, "\t"), 0, "\n");
        Check.fails(Check.times(2000, "%\n"), 0, "");
        Check.fails("{" + Check.times(1999, "%\n"), 91999, "");
    }

    /** "LINE is how many lines were begun": one is begun when a character of it is needed, not before. */
    private static void lineOfTheFault() {
        Check.fails("}\n\n", 130001, "");
        Check.fails("a\n}\n", 130002, "a ");
        Check.fails("\\count256 \n=1", 70001, "");
        Check.fails("\\count256\n=1", 70001, "");
        Check.fails("\\count256%\n=1", 70002, "");
        Check.fails("\\number2147483648%\n\n", 70001, "");
        Check.fails("\\number214748364%\n8%\n9", 70002, "");
        Check.fails("\\romannumeral10000%\n%\n\\relax", 70003, "");
        Check.fails("\\def\\a#1{}\\a%\n%\n}", 50003, "");
        Check.fails("\\def\\a{\n\n}}\n", 130003, "");
        Check.fails("\\iffalse\n\n\\fi}", 130003, "");
        Check.fails("\\let\\x=%\n\\q\n\\x", 110003, "");
    }

    /** "From each line, when it is begun, spaces (32) at its end are left out". */
    private static void spacesAtLineEnds() {
        Check.prints("a ", "a ");
        Check.prints("a   ", "a ");
        Check.prints("a   \n   b", "a b ");
        Check.prints("  \n  ", "\n\n");
        Check.prints("\\string\\ ", "\\\r");
        Check.prints("\\string\\   \n\\string\\ x", "\\\r\\ x ");
        Check.prints("\\catcode32=12\\relax%\na  b  \n  c%", "a  b   c");
        Check.prints("\\catcode32=12\\relax%\na \n%", "a ");
        Check.prints("\\catcode32=12\\relax%\na\n%", "a ");
        Check.prints("\\catcode32=12\\relax%\n   \nb%", "\nb");
        Check.prints("\\catcode32=12\\relax%\n \n \n%", "\n\n");
        Check.prints("\\catcode32=12\\relax%\n   b   %   ", "   b   ");
        Check.prints("\\catcode32=0\\relax%\na\nb  ", "a b ");
        Check.fails("\\catcode32=15\\relax%\na  \nb  \n c", 10004, "a b ");
    }

    /** No other byte is left out, and 13 comes behind each line. */
    private static void otherBytesAtLineEnds() {
        Check.prints("\\catcode9=12\\relax%\na\t\nb%", "a\t b");
        Check.prints("\\catcode9=12\\relax%\na \t \nb%", "a \t b");
        Check.prints("\\catcode0=12\\relax%\na\0 \nb%", "a\0 b");
        Check.prints("\\catcode13=12\\relax%\na\r\nb%", "a\r\rb");
        Check.prints("\\catcode13=12\\relax%\na\r \nb", "a\r\rb\r");
        Check.prints("\\catcode13=12\\relax%\n\n\n", "\r\r");
        Check.prints("\\catcode10=12\\relax%\na\nb%", "a b");
        Check.prints("\\catcode10=15\\relax%\n\n\n", "\n\n");
        Check.prints("a\rb\nc%", "a c");
        Check.prints("\rb\nc%", "\nc");
    }

    /** "NEW at the begin of each line", however the line before ended. */
    private static void statesAtLineBegins() {
        Check.prints("a%\n\nb%", "a\nb");
        Check.prints("a%\n b%", "ab");
        Check.prints("a %\n b%", "a b");
        Check.prints("a\n\n\nb%", "a \n\nb");
        Check.prints("\\relax\n\nb%", "\nb");
        Check.prints("a\n \t\0 \nb%", "a \nb");
        Check.prints("\\catcode13=9\\relax%\na\n b\n\nc%", "abc");
        Check.prints("\\catcode13=10\\relax%\n\na\n\n b%", "a b");
        Check.prints("\\catcode13=14\\relax%\na\n\nb", "ab");
    }

    private static void shortNames() {
        Check.prints("\\catcode13=0\\relax%\n\\string\nx%", "\\x");
        Check.prints("\\catcode13=0\\relax%\n\\expandafter\\def\\csname\\endcsname{E}%\na\nb%", "aEb");
        Check.fails("\\catcode13=0\\relax%\na\n", 110002, "a");
        Check.prints("\\string\\a;\\string\\1;\\string\\\u007f;\\string\\%;\\string\\\0;\\string\\\\%", "\\a;\\1;\\\u007f;\\%;\\\0;\\\\");
        Check.prints("\\string\\\na%", "\\\ra");
        Check.prints("\\string\\\r;\na%", "\\\r; a");
        Check.prints("\\string\\{\\string\\}\\string\\#\\string\\~%", "\\{\\}\\#\\~");
        Check.prints("\\def\\a{1}\\def\\ab{2}\\def\\b{3}\\a b\\ab\\b%", "1b23");
        Check.prints("\\def\\1{o}\\1\\11%", "oo1");
        Check.prints("\\catcode`1=11 \\def\\1{o}\\def\\11{e}\\1 \\11 1%", "oe1");
    }

    /** "FAULT 2 if it has more than 40 characters." */
    private static void longNames() {
        String name = Check.times(39, "n");
        Check.prints("\\string\\" + name + "%", "\\" + name);
        Check.prints("\\string\\" + name + "a%", "\\" + name + "a");
        Check.fails("\\string\\" + name + "ab%", 20001, "");
        Check.fails("\\string\\" + Check.times(3000, "n"), 20001, "");
        Check.prints("\\string\\" + name + "a1%", "\\" + name + "a1");
        Check.prints("\\string\\" + name + "a b%", "\\" + name + "ab");
        Check.prints("\\def\\" + name + "{1}\\def\\" + name + "a{2}\\def\\" + name + "b{3}\\" + name + " \\" + name + "a\\"
                + name + "b%", "123");
        Check.fails("\\iffalse\n\\" + name + "ab\\fi", 20002, "");
        Check.fails("\\def\\a#1{}%\n\\a\\" + name + "ab", 20002, "");
        Check.prints("%\\" + name + "ab", "");
        Check.fails("\\" + name + "a", 110001, "");
        Check.fails("\\" + name + "ab", 20001, "");
    }

    /** csname: "each must be a character itself (FAULT 6, also for what means one, and before 2), at most 40 (FAULT 2)". */
    private static void namesByCsname() {
        String name = Check.times(39, "n");
        Check.prints("\\expandafter\\string\\csname\\endcsname;%", "\\;");
        Check.prints("\\expandafter\\string\\csname a\\endcsname;%", "\\a;");
        Check.prints("\\expandafter\\string\\csname " + name + "\\endcsname%", "\\" + name);
        Check.prints("\\expandafter\\string\\csname " + name + "a\\endcsname%", "\\" + name + "a");
        Check.failsIn(2, "\\expandafter\\string\\csname " + name + "ab\\endcsname", 20001);
        Check.failsIn(1, "\\csname " + name + "a%\nb\\endcsname", 20002);
        Check.failsIn(1, "\\csname " + name + "a%\n\\relax\\endcsname", 60002);
        Check.failsIn(1, "\\csname " + name + "\\relax ab\\endcsname", 60001);
        Check.failsIn(2, "\\let\\x=a\\csname " + name + "a%\n\\x\\endcsname", 60002);
        Check.failsIn(1, "\\csname " + name + "a%\n", 90001);
        Check.failsIn(42, "\\csname " + Check.times(40, "\\iftrue ") + "a\\endcsname%", 90001);
        Check.prints("\\csname expandafter\\endcsname ab\\csname global\\endcsname\\def\\x{c}\\x%", "abc");
        Check.prints("\\def\\" + name + "a{a}" + Check.times(40, "\\csname " + name) + "a" + Check.times(40, "\\endcsname") + "%", "a");
        Check.prints("\\def\\" + name + "a{x}\\csname " + name + "a\\endcsname%", "x");
        Check.prints("\\expandafter\\def\\csname " + name + "a\\endcsname{y}\\" + name + "a%", "y");
        Check.failsIn(2, "\\csname\\csname\\endcsname\\endcsname%", 60001);
    }

    /** "the state is SKIPPING behind those with 11, or one with 10, else MIDDLE". */
    private static void statesBehindNames() {
        Check.prints("\\string\\a  b%", "\\ab");
        Check.prints("\\string\\ab  c%", "\\abc");
        Check.prints("\\string\\   b%", "\\ b");
        Check.prints("\\string\\\t  b%", "\\\tb");
        Check.prints("\\string\\\t\nb%", "\\\tb");
        Check.prints("\\string\\\t\n\nb%", "\\\t\nb");
        Check.prints("\\string\\1  b%", "\\1 b");
        Check.prints("\\string\\~  b%", "\\~ b");
        Check.prints("\\string\\a\n\nb%", "\\a\nb");
        Check.prints("\\string\\1\n\nb%", "\\1 \nb");
        Check.prints("\\string\\a\n  b%", "\\ab");
    }
}
