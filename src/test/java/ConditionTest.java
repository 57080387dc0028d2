/** Promise 3, conditions: how each is decided, what is dropped, else, or and fi. */
public final class ConditionTest {
    public static void main(String[] args) {
        ifCharacter();
        ifCategory();
        ifMeaning();
        ifNumber();
        ifCase();
        within();
        openedWhileDeciding();
        metWhileDeciding();
        everyConditionWithin();
        droppedByMeaning();
        faults();
        Check.end();
    }

    private static void holds(String condition, boolean isTrue) {
        Check.prints(condition + " t\\else f\\fi%", isTrue ? "t" : "f");
        Check.prints(condition + " t\\fi;%", isTrue ? "t;" : ";");
    }

    private static void ifCharacter() {
        holds("\\if aa\\relax", true);
        holds("\\if ab\\relax", false);
        holds("\\if bc\\relax", false);
        holds("\\if aA\\relax", false);
        holds("\\if\\relax\u00ff\\relax", false);
        holds("\\if\u00ff\\q\\relax", false);
        holds("\\if\u00ff\u00ff\\relax", true);
        holds("\\catcode0=12 \\if\0\\q\\relax", false);
        holds("\\catcode0=12 \\if\0\0\\relax", true);
        holds("\\if a\\string a\\relax", true);
        holds("\\if\\relax\\par\\relax", true);
        holds("\\if\\q~\\relax", true);
        holds("\\let\\x=a\\if a\\x\\relax", true);
        holds("\\let\\x=a\\if b\\x\\relax", false);
        holds("\\def\\x{ab}\\if\\x\\relax", false);
        holds("\\def\\x{aa}\\if\\x\\relax", true);
        holds("\\chardef\\x=97 \\if a\\x\\relax", false);
        holds("\\chardef\\x=97 \\if\\relax\\x\\relax", true);
        holds("\\def\\x{a}\\if a\\noexpand\\x\\relax", false);
    }

    private static void ifCategory() {
        holds("\\ifcat ab\\relax", true);
        holds("\\ifcat a1\\relax", false);
        holds("\\ifcat 1+\\relax", true);
        holds("\\ifcat{{\\relax", true);
        holds("\\ifcat$&\\relax", false);
        holds("\\ifcat\\relax~\\relax", true);
        holds("\\let\\x=a\\ifcat b\\x\\relax", true);
        holds("\\ifcat 1\u00e9\\relax", true);
        String[] categories = {"{", "}", "$", "&", "#", "^", "_", "\\s", "\\l", "1", "\\relax"};
        for (String first : categories) {
            for (String second : categories) {
                holds("\\def\\x#1{\\let\\s=#1#1}\\x{ }\\let\\l=a\\ifcat" + first + second + "\\relax", first.equals(second));
            }
        }
        holds("\\let\\x=@\\catcode`@=11 \\ifcat @\\x\\relax", false);
        holds("\\chardef\\x=97 \\ifcat\\q\\x\\relax", true);
    }

    private static void ifMeaning() {
        holds("\\ifx\\q\\r", true);
        holds("\\ifx\\q~\\relax", true);
        holds("\\ifx\\relax\\par", false);
        holds("\\ifx\\q\\relax", false);
        holds("\\let\\x=\\relax\\ifx\\x\\relax", true);
        holds("\\let\\x=\\if\\ifx\\x\\if", true);
        holds("\\ifx aa\\relax", true);
        holds("\\ifx ab\\relax", false);
        holds("\\let\\x=a\\ifx\\x a\\relax", true);
        holds("\\let\\x=a\\ifx\\x b\\relax", false);
        holds("\\let\\x=@\\catcode`@=11 \\ifx\\x @", false);
        holds("\\chardef\\x=97 \\chardef\\y=97 \\ifx\\x\\y", true);
        holds("\\chardef\\x=97 \\chardef\\y=98 \\ifx\\x\\y", false);
        holds("\\chardef\\x=97 \\ifx\\x a", false);
        holds("\\def\\x{a}\\def\\y{a}\\ifx\\x\\y", true);
        holds("\\def\\x{a}\\ifx\\x a", false);
        holds("\\def\\x{}\\ifx\\x\\q", false);
        holds("\\def\\x{}\\ifx\\q\\x", false);
        holds("\\def\\x{}\\ifx\\x\\relax", false);
        holds("\\def\\x{}\\def\\y{}\\ifx\\x\\y", true);
        holds("\\def\\z{uvw}\\def\\x{ab}\\def\\y{ab}\\ifx\\x\\y", true);
        holds("\\def\\z{uvw}\\def\\x{ab}\\def\\y{ab}\\ifx\\y\\x", true);
        holds("\\def\\z{uvw}\\def\\x{ab}\\def\\y{ac}\\ifx\\x\\y", false);
        holds("\\def\\z{uvw}\\def\\x{ab}\\def\\y{cb}\\ifx\\x\\y", false);
        holds("\\def\\z{uvw}\\def\\x#1{ab}\\def\\y{1ab}\\ifx\\x\\y", false);
        holds("\\def\\x{a}\\expandafter\\ifx\\noexpand\\x\\x", false);
    }

    private static void ifNumber() {
        holds("\\ifnum1<2", true);
        holds("\\ifnum2<1", false);
        holds("\\ifnum1=1", true);
        holds("\\ifnum-1=1", false);
        holds("\\ifnum-1>-2", true);
        holds("\\ifnum1>1", false);
        holds("\\ifnum 1   < 2", true);
        holds("\\def\\r{ < }\\ifnum1\\r2", true);
        holds("\\count1=5 \\ifnum\\count1 =5", true);
        holds("\\ifodd1", true);
        holds("\\ifodd-3", true);
        holds("\\ifodd0", false);
        holds("\\ifodd-4", false);
        holds("\\iftrue", true);
        holds("\\iffalse", false);
        Check.fails("\\ifnum1a2 ", 60001, "");
        Check.fails("\\ifnum1\\relax2 ", 60001, "");
        Check.fails("\\catcode`<=11 \\ifnum1<2 ", 60001, "");
        Check.fails("\\ifnum1 ", 90001, "");
        Check.fails("\\ifnum1<\n", 90001, "");
    }

    private static void ifCase() {
        chooses("0", "a");
        chooses("1", "b");
        chooses("2", "c");
        chooses("3", "d");
        chooses("4", "d");
        chooses("-1", "d");
        chooses("2147483647", "d");
        chooses("-2147483647", "d");
        Check.prints("\\ifcase1 a\\fi\\ifcase-1 a\\or b\\fi\\ifcase9 a\\or b\\fi\\ifcase0\\fi;%", ";");
        Check.prints("\\ifcase0 a\\or b\\or c\\else d\\else e\\or f\\fi%", "a");
        Check.prints("\\ifcase1 \\ifcase1 a\\or b\\else c\\fi\\or d\\fi%", "d");
        Check.prints("\\ifcase2 a\\or\\iftrue\\or\\else\\fi\\or c\\fi%", "c");
        Check.printsIn(3, "\\ifcase1 a\\or b\\or c\\fi%", "b");
        Check.printsIn(3, "\\ifcase1 a\\or b\\fi%", "b");
    }

    private static void chooses(String number, String letter) {
        Check.prints("\\ifcase" + number + " a\\or b\\or c\\else d\\fi%", letter);
    }

    private static void within() {
        Check.prints("\\iffalse\\iftrue a\\else b\\fi c\\else d\\fi%", "d");
        Check.prints("\\iftrue a\\else\\iffalse b\\else c\\fi d\\fi%", "a");
        Check.prints("\\iftrue a\\else b\\else c\\or d\\fi%", "a");
        Check.prints("\\def\\a{\\iffalse}\\a x\\fi y%", "y");
        Check.prints("\\let\\i=\\iftrue\\let\\f=\\fi\\let\\e=\\else\\iffalse\\i a\\e b\\f c\\e d\\f%", "d");
        Check.prints("\\def\\i{\\iftrue}\\iffalse\\i\\else d\\fi%", "d");
        Check.prints("\\def\\f{\\fi}\\iffalse\\f a\\else b\\f%", "b");
        Check.prints("\\iffalse}{#\\else b\\fi%", "b");
        Check.prints("{\\iftrue}\\fi{\\iffalse}\\fi;}%", ";");
        Check.prints("\\iftrue{\\else}\\fi}%", "");
        Check.prints("\\if\\iftrue aa\\fi b\\fi%", "b");
    }

    private static void openedWhileDeciding() {
        Check.prints("\\if a\\iftrue b c\\fi d\\else e\\fi f%", "ef");
        Check.prints("\\if a\\iftrue ac\\fi d\\else e\\fi f%", "cdf");
        Check.prints("\\if a\\iftrue b c\\else g\\or\\fi d\\else e\\fi f%", "ef");
        Check.prints("\\ifcase\\iftrue 1 x\\fi a\\or b\\else c\\fi%", "b");
        Check.prints("\\ifcase\\ifcase0 1 x\\or y\\else z\\fi a\\or b\\else c\\fi%", "b");
        Check.prints("\\ifnum0=\\iffalse\\else 1 x\\fi y\\else z\\fi%", "z");
        Check.prints("\\ifnum1=\\iffalse\\else 1 x\\fi y\\else z\\fi%", "xy");
        Check.prints("\\if a\\iftrue\\iftrue b\\fi\\else\\fi c\\fi d%", "d");
    }

    private static void metWhileDeciding() {
        Check.printsIn(5, "\\ifnum1=1\\else g\\fi h%", "h");
        Check.printsIn(4, "\\ifnum1=1\\fi%", "");
        Check.printsIn(2, "\\ifnum1=2\\fi%", "");
        Check.printsIn(3, "\\if\\relax\\fi%", "");
        Check.printsIn(4, "\\if\\fi%", "");
        Check.printsIn(4, "\\ifcase0\\or a\\else b\\fi%", "");
        Check.printsIn(4, "\\ifcase1\\or a\\or b\\fi%", "a");
        Check.failsIn(2, "\\ifnum\\fi", 60001);
        Check.failsIn(4, "\\ifnum1=1\\or\\fi", 80001);
        Check.prints("\\if\\string\\else\\fi%", "");
        Check.prints("\\edef\\a{\\ifnum1=1\\fi}\\def\\b{\\relax}\\ifx\\a\\b s\\fi%", "s");
        Check.prints("\\edef\\a{\\ifnum1=1\\else x\\fi}\\def\\b{\\relax}\\ifx\\a\\b s\\fi%", "s");
        Check.prints("\\edef\\a{\\ifcase0\\or x\\fi}\\def\\b{\\relax}\\ifx\\a\\b s\\fi%", "s");
        Check.prints("\\def\\relax{x}\\ifnum1=1\\fi;%", ";");
        Check.prints("\\ifodd1\\iftrue\\fi a\\fi b%", "ab");
    }

    private static final String[] CONDITIONS = {"\\if", "\\ifcat", "\\ifx", "\\ifnum", "\\ifodd", "\\iftrue", "\\iffalse", "\\ifcase"};

    /** In what is dropped each condition has its own else, or and fi, and is not decided. */
    private static void everyConditionWithin() {
        for (String inner : CONDITIONS) {
            Check.printsIn(3, "\\iffalse" + inner + "\\else\\fi\\else b\\fi%", "b");
            Check.printsIn(3, "\\iffalse" + inner + "\\or\\else\\or\\else\\fi\\else b\\fi%", "b");
            Check.printsIn(1, "\\iffalse" + inner + "\\fi\\fi%", "");
            Check.printsIn(2, "\\iftrue\\else" + inner + "\\else\\fi\\fi%", "");
            Check.printsIn(2, "\\iftrue\\else" + inner + "\\fi\\else\\fi%", "");
            Check.printsIn(3, "\\ifcase1 " + inner + "\\or\\or\\else\\fi\\or b\\fi%", "b");
            Check.printsIn(3, "\\ifcase2 " + inner + "\\or\\fi\\or" + inner + "\\or\\fi\\or b\\fi%", "b");
            Check.printsIn(2, "\\ifcase0 \\or" + inner + "\\fi\\fi%", "");
            Check.printsIn(3, "\\iffalse" + inner + inner + "\\fi\\else\\fi\\else b\\fi%", "b");
            Check.fails("\\iffalse" + inner + "\\fi", 90001, "");
        }
        for (String outer : new String[] {"\\if ab", "\\ifcat a1", "\\ifx ab", "\\ifnum1=2 ", "\\ifodd2 ", "\\iffalse", "\\ifcase1 "}) {
            Check.printsIn(3, outer + ";\\else b\\fi%", "b");
            Check.printsIn(1, outer + ";\\fi%", "");
            Check.printsIn(1, outer + "{\\iftrue a\\else b\\fi\\fi%", "");
        }
        for (String outer : new String[] {"\\if aa", "\\ifcat ab", "\\ifx aa", "\\ifnum1=1 ", "\\ifodd1 ", "\\iftrue", "\\ifcase0 "}) {
            Check.printsIn(3, outer + ";\\else b\\fi%", ";");
            Check.printsIn(3, outer + ";\\fi%", ";");
        }
    }

    /** "conditions within, by what tokens mean": not by their names, and a marked one means relax. */
    private static void droppedByMeaning() {
        Check.prints("\\let\\i=\\ifnum\\let\\e=\\else\\let\\o=\\or\\let~=\\fi\\iffalse\\i\\e\\o~\\e b~%", "b");
        Check.prints("\\let\\if=\\relax\\iffalse\\if\\else b\\fi%", "b");
        Check.prints("\\def\\fi{}\\expandafter\\let\\csname\\endcsname\\relax;%", ";");
        Check.prints("\\let\\f=\\fi\\let\\fi=\\relax\\iffalse\\fi a\\f b%", "b");
        Check.prints("\\def\\i{\\iffalse}\\i\\i\\fi b%", "b");
        Check.prints("\\def\\a#1#2{#1\\else b#2}\\expandafter\\a\\expandafter{\\expandafter\\iffalse\\noexpand\\iftrue}\\fi%", "b");
        Check.prints("\\def\\a#1{\\iffalse#1\\else b\\fi}\\expandafter\\a\\noexpand\\fi%", "b");
        String[] others = {"expandafter", "noexpand", "csname", "string", "number", "romannumeral", "the", "relax", "par", "begingroup",
            "endgroup", "endcsname", "end", "def", "edef", "gdef", "xdef", "let", "chardef", "count", "catcode", "advance", "multiply",
            "divide", "global"};
        for (String other : others) {
            Check.printsIn(3, "\\iffalse\\" + other + "\\else b\\fi%", "b");
            Check.printsIn(3, "\\iftrue b\\else\\" + other + "\\fi%", "b");
            Check.printsIn(3, "\\ifcase1 \\" + other + "\\or b\\fi%", "b");
        }
        Check.prints("\\chardef\\x=16 \\let\\y=\\x\\iffalse\\x\\y\\q~#}\\else b\\fi%", "b");
    }

    private static void faults() {
        Check.failsIn(1, "\\fi", 80001);
        Check.failsIn(1, "\\else", 80001);
        Check.failsIn(1, "\\or", 80001);
        Check.failsIn(3, "\\iftrue\\fi\n\\fi", 80002);
        Check.failsIn(2, "\\iftrue\\or\\fi", 80001);
        Check.failsIn(1, "\\iffalse\\or\\fi", 80001);
        Check.failsIn(1, "\\ifnum1=2 \\or\\fi", 80001);
        Check.failsIn(2, "\\iffalse\\else\\else\\fi", 80001);
        Check.failsIn(2, "\\iffalse\\else\n\\or\\fi", 80002);
        Check.failsIn(2, "\\ifcase9 \\or\\else\\or\\fi", 80001);
        Check.failsIn(2, "\\ifcase9 \\or\\else\\else\\fi", 80001);
        Check.failsIn(1, "\\iffalse\n\n", 90002);
        Check.failsIn(2, "\\iftrue\\else\n", 90001);
        Check.failsIn(1, "\\iftrue\n", 90001);
        Check.failsIn(1, "\\if a%", 90001);
        Check.failsIn(1, "\\ifx a%", 90001);
        Check.failsIn(1, "\\ifcase1 a\\or", 90001);
        Check.failsIn(2, "\\iftrue\\end\\fi", 90001);
    }
}
