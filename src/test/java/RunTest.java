/** Promise 3, what is done with tokens: OUT, groups, let, global, the end. */
public final class RunTest {
    public static void main(String[] args) {
        done();
        groups();
        bringingBack();
        let();
        global();
        ending();
        Check.end();
    }

    private static void done() {
        Check.printsIn(4, "a1 $%", "a1 $");
        Check.printsIn(3, "\\relax\\par\\par%", "\n\n");
        Check.printsIn(2, "\\let\\x=a\\x%", "a");
        Check.fails("#", 120001, "");
        Check.fails("\\let\\x=#%\n\\x", 120002, "");
        Check.fails("ab\\q", 110001, "ab");
        Check.fails("a\n~", 110002, "a ");
        Check.fails("\\let\\x=\\q\\x", 110001, "");
        Check.fails("\\endcsname", 60001, "");
        Check.fails("\u007f", 10001, "");
    }

    private static void groups() {
        Check.prints("{a{b}c}\\begingroup d\\endgroup%", "abcd");
        Check.prints("\\let\\b={\\let\\e=}\\b\\count1=1}{\\count1=1\\e\\the\\count1%", "0");
        Check.prints("\\let\\b=\\begingroup\\let\\e=\\endgroup\\b\\e%", "");
        Check.failsIn(1, "}", 130001);
        Check.failsIn(1, "\\endgroup", 130001);
        Check.failsIn(3, "{\n\\endgroup", 130002);
        Check.failsIn(2, "\\begingroup}", 130001);
        Check.failsIn(4, "{\\begingroup\\endgroup\\endgroup", 130001);
        Check.failsIn(3, "{}}", 130001);
    }

    private static void bringingBack() {
        Check.prints("\\def\\a{1}{\\def\\a{2}\\a\\def\\a{3}\\a{\\def\\a{4}\\a}\\a}\\a%", "23431");
        Check.prints("\\count1=1{\\count1=2{\\count1=3}\\the\\count1\\count1=4}\\the\\count1%", "21");
        Check.prints("{\\count1=2{\\global\\count1=3 \\count1=4 \\the\\count1}\\the\\count1\\count1=5}\\the\\count1%", "433");
        Check.prints("{\\count1=2\\global\\count1=3\\count1=4{\\count1=5}\\the\\count1}\\the\\count1%", "43");
        Check.prints("{\\global\\count1=3}\\the\\count1%", "3");
        Check.prints("{{\\catcode`@=11\\global\\catcode`@=3}\\the\\catcode`@ }\\the\\catcode`@%", "33");
        Check.prints("{\\let~=a~{\\let~=b~}~}\\let~=c~%", "abac");
        Check.prints("\\def\\a{1}\\begingroup\\def\\a{2}{\\gdef\\a{3}}\\a\\endgroup\\a%", "33");
        Check.prints("{\\csname q\\endcsname{\\ifx\\q\\relax r\\fi}}\\ifx\\q\\z n\\fi%", "rn");
        Check.prints("{\\def\\relax{x}\\relax}\\relax%", "x");
        Check.fails("{\\def\\q{1}\\q}\\q", 110001, "1");
        Check.fails("{\\let~=a~}~", 110001, "a");
    }

    private static void let() {
        Check.prints("\\let\\x=\\par\\x\\let\\x\\relax\\x\\let\\x y\\x%", "\ny");
        Check.prints("\\def\\a{1}\\let\\b=\\a\\def\\a{2}\\a\\b%", "21");
        Check.prints("\\let\\x==\\x\\let\\x= =\\x%", "==");
        Check.prints("\\let \\x  =  a\\x%", "a");
        Check.prints("\\def\\s#1{\\let\\x=#1#1\\x}\\s{ };%", " ;");
        Check.prints("\\let\\x={\\x\\count1=1}\\the\\count1%", "0");
        Check.prints("\\let~\\x\\def\\x{1}\\ifx~\\q u\\fi%", "u");
        Check.prints("\\catcode`==11 \\let\\x=\\x%", "");
        Check.prints("{\\let\\x=a}\\ifx\\x\\q u\\fi{\\global\\let\\x=a}\\x%", "ua");
        Check.fails("\\let x=a", 60001, "");
        Check.fails("\\let\\x=%", 90001, "");
        Check.fails("\\let\\x%", 90001, "");
        Check.fails("\\let\\x= %\n", 90001, "");
        Check.fails("\\let", 90001, "");
    }

    private static void global() {
        Check.printsIn(5, "{\\global\\def\\a{x}}\\a%", "x");
        Check.prints("{\\global\\edef\\a{x}\\global\\gdef\\b{y}\\global\\xdef\\c{z}}\\a\\b\\c%", "xyz");
        Check.prints("{\\global \\relax \\global\\relax\\count1=4 }\\the\\count1%", "4");
        Check.prints("\\def\\r{ \\relax }{\\global\\r\\iftrue\\count1=4 \\fi}\\the\\count1%", "4");
        Check.prints("{\\global\\noexpand\\number\\count1=4 }\\the\\count1%", "4");
        Check.prints("{\\global\\multiply\\count1 by2 \\global\\count2=3 \\global\\divide\\count2 by2 }\\the\\count2%", "1");
        Check.prints("{\\global\\catcode`@=11 }\\def\\@@{x}\\@@%", "x");
        Check.prints("{\\global\\count1=1 \\count2=2 }\\the\\count1 \\the\\count2%", "10");
        Check.fails("\\global a", 60001, "");
        Check.fails("\\global\\par", 60001, "");
        Check.fails("\\global\\q", 60001, "");
        Check.fails("\\global\\begingroup", 60001, "");
        Check.fails("\\global{", 60001, "");
        Check.failsIn(1, "\\global\\global\\endcsname", 60001);
        Check.failsIn(1, "\\global\\relax\n\n", 60002);
        Check.fails("\\global\\relax%\n", 90001, "");
        Check.printsIn(2, "\\global\\global\\def\\a{}\\global\\relax\\count1=1 %", "");
    }

    private static void ending() {
        Check.printsIn(2, "a\\end b}\u007f", "a");
        Check.printsIn(2, "\\let\\e=\\end\\e}", "");
        Check.fails("{a\\end}", 90001, "a");
        Check.fails("\\begingroup", 90001, "");
        Check.fails("\\iftrue a\n\\end\\fi", 90002, "a ");
        Check.fails("a{\n\nb", 90003, "a \nb ");
        Check.failsWithin(1, "a\\end", 100001, "a");
        Check.failsWithin(2, "a\\end", 0, "a");
        Check.failsWithin(0, "\\relax", 100001, "");
        Check.failsWithin(0, "%\n%", 0, "");
    }
}
