/** Promise 3, boundaries of macros: 0, 9 and 10 parameters, empty arguments, arguments all within braces, delimiters. */
public final class MacroBoundsTest {
    /** Prints its argument and then counter 1: 5 if the argument set it with no braces round, 0 if within braces. */
    private static final String SHOW = "\\def\\s#1.{(#1\\the\\count1)}";
    private static final String SET = "\\count1=5\\relax";

    public static void main(String[] args) {
        howManyParameters();
        parametersInOrder();
        places();
        signs();
        emptyArguments();
        argumentsWithinBraces();
        spacesBeforeArguments();
        closingNone();
        firstDelimiters();
        lastDelimiters();
        sameTokens();
        Check.end();
    }

    private static final String[] DEFINITIONS = {"\\def", "\\edef", "\\gdef", "\\xdef", "\\global\\def"};

    private static void fault(int answer, String behindDef) {
        for (String definition : DEFINITIONS) {
            Check.fails("%\n" + definition + behindDef, answer, "");
        }
    }

    private static void prints(String behindDef, String out) {
        for (String definition : DEFINITIONS) {
            Check.prints(definition + behindDef, out);
        }
    }

    private static void howManyParameters() {
        prints("\\a{x}\\a y%", "xy");
        prints("\\a#1{(#1)}\\a y%", "(y)");
        prints("\\a#1#2#3#4#5#6#7#8{#8#1}\\a123456789%", "819");
        prints("\\a#1#2#3#4#5#6#7#8#9{#9#8#7#6#5#4#3#2#1}\\a123456789%", "987654321");
        prints("\\a#1#2#3#4#5#6#7#8#90{#9#1}\\a1234567890;%", "91;");
        fault(120002, "\\a#1#2#3#4#5#6#7#8#9#0{}");
        fault(120002, "\\a#1#2#3#4#5#6#7#8#9#1{}");
        fault(120002, "\\a#1#2#3#4#5#6#7#8#9#9{}");
        fault(120002, "\\a#1#2#3#4#5#6#7#8#9#:{}");
        fault(120002, "\\a#1#2#3#4#5#6#7#8#9#{}");
        fault(120002, "\\a#1#2#3#4#5#6#7#8#9#");
    }

    /** "a digit (category 12) 1 .. 9, which must be 1 more than the one before (FAULT 12)". */
    private static void parametersInOrder() {
        fault(120002, "\\a#0{}");
        fault(120002, "\\a#2{}");
        fault(120002, "\\a#9{}");
        fault(120002, "\\a#1#1{}");
        fault(120002, "\\a#1#3{}");
        fault(120002, "\\a#1#0{}");
        fault(120002, "\\a#1.#1{}");
        fault(120002, "\\a##{}");
        fault(120002, "\\a#x{}");
        fault(120002, "\\a# 1{}");
        fault(120002, "\\a#\\b{}");
        fault(120002, "\\a#~{}");
        fault(120002, "\\a#{x}");
        fault(120002, "\\a#}{x}");
        fault(50002, "\\a}{x}");
        fault(50002, "\\a#1}{x}");
        fault(50002, "\\a#1.}{x}");
        Check.fails("\\catcode`1=11\\relax\\def\\a#1{}", 120001, "");
        Check.fails("\\catcode`1=13\\relax\\def\\a#1{}", 120001, "");
        Check.prints("\\catcode`!=6 \\def\\a!1#2{!2#1}\\a xy%", "yx");
    }

    /** "a digit of a parameter is its place ...; otherwise FAULT 12". */
    private static void places() {
        prints("\\a#1{#1#1}\\a x%", "xx");
        prints("\\a#1{#10}\\a x%", "x0");
        prints("\\a#1#2{#2}\\a xy%", "y");
        prints("\\a#1{}\\a xy%", "y");
        prints("\\a#1{{#1}}\\a x%", "x");
        fault(120002, "\\a{#1}");
        fault(120002, "\\a{#0}");
        fault(120002, "\\a{#9}");
        fault(120002, "\\a#1{#0}");
        fault(120002, "\\a#1{#2}");
        fault(120002, "\\a#1#2#3#4#5#6#7#8{#9}");
        fault(120002, "\\a#1#2#3#4#5#6#7#8#9{#0}");
        fault(120002, "\\a#1#2#3#4#5#6#7#8#9{#:}");
        fault(120002, "\\a#1{{#2}}");
        fault(120002, "\\a#1{#x}");
        fault(120002, "\\a#1{# 1}");
        fault(120002, "\\a#1{#\\relax}");
        fault(120002, "\\a#1{#~}");
        fault(120002, "\\a#1{#{1}}");
        fault(120002, "\\a#1{#}");
        Check.fails("\\catcode`1=11\\relax\\def\\a{#1}", 120001, "");
        Check.prints("\\edef\\a#1{#\\number1 0}\\a x%", "x0");
        Check.fails("\\edef\\a#1{#\\number2 }", 120001, "");
        Check.fails("\\def\\a#1{#\\number1 }", 120001, "");
        Check.prints("\\def\\h{##}\\edef\\a#1{\\h1\\noexpand\\string\\h\\h}\\a x%", "x#");
    }

    /** "two of category 6 are one". */
    private static void signs() {
        Check.prints("\\def\\a{\\string##}\\a%", "#");
        Check.prints("\\def\\a{\\string##\\string##}\\a%", "##");
        Check.prints("\\def\\a#1{\\string###1}\\a x%", "#x");
        Check.prints("\\def\\a#1{\\string##1#1}\\a x%", "#1x");
        Check.prints("\\def\\a#1{\\def\\b##1{(#1##1)}}\\a x\\b y%", "(xy)");
        Check.prints("\\def\\a{\\def\\b{\\def\\c####1{<####1>}}}\\a\\b\\c z%", "<z>");
        Check.fails("\\def\\a{##}%\n\\a", 120002, "");
        fault(120002, "\\a{###}");
        Check.prints("\\edef\\a{##}\\expandafter\\string\\a%", "#");
    }

    private static void emptyArguments() {
        Check.prints("\\def\\a#1{(#1)}\\a{}%", "()");
        Check.prints("\\def\\a#1#2{(#1|#2)}\\a{}{}%", "(|)");
        Check.prints("\\def\\a#1#2{(#1|#2)}\\a{} {}%", "(|)");
        Check.prints("\\def\\a#1.{(#1)}\\a.%", "()");
        Check.prints("\\def\\a#1.{(#1)}\\a{}.%", "()");
        Check.prints("\\def\\a#1.#2,{(#1|#2)}\\a.,%", "(|)");
        Check.prints("\\def\\a#1..{(#1)}\\a..%", "()");
        Check.prints("\\def\\a#1..{(#1)}\\a...%", "().");
        Check.prints("\\def\\a#1#2.{(#1|#2)}\\a x.\\a{}.%", "(x|)(|)");
        Check.prints("\\def\\a .#1.{(#1)}\\a..%", "()");
        Check.prints("\\def\\a#1 {(#1)}\\def~#1 {[#1]}~ ;%", "[];");
        Check.prints(SHOW + "\\s{}.%", "(0)");
    }

    /** "if that is one token of category 1, and the one of category 2 that closes it is the last one, these two are left out". */
    private static void argumentsWithinBraces() {
        Check.prints(SHOW + "\\s{" + SET + "}.%", "(5)");
        Check.prints(SHOW + "\\s{{" + SET + "}}.%", "(0)");
        Check.prints(SHOW + "\\s{" + SET + "}{}.%", "(0)");
        Check.prints(SHOW + "\\s{}{" + SET + "}.%", "(0)");
        Check.prints(SHOW + "\\s{" + SET + "}x.%", "(x0)");
        Check.prints(SHOW + "\\s x{" + SET + "}.%", "(x0)");
        Check.prints("\\def~#1.{(#1\\the\\count1)}~ {" + SET + "}.%", "( 0)");
        Check.prints("\\def~#1.{(#1\\the\\count1)}~{" + SET + "} .%", "( 0)");
        Check.prints(SHOW + "\\s{" + SET + ".}.%", "(.5)");
        Check.prints(SHOW + "\\s{{.}" + SET + "{.}}.%", "(..5)");
        Check.prints(SHOW + "\\s\\begingroup" + SET + "\\endgroup.%", "(0)");
        Check.prints("\\def\\s#1{(#1\\the\\count1)}\\s{" + SET + "}\\s{{\\count1=7\\relax}}%", "(5)(5)");
        Check.prints("\\let\\b={\\let\\e=}" + SHOW + "\\s\\b" + SET + "\\e.%", "(0)");
        Check.prints("\\catcode`[=1 \\catcode`]=2 " + SHOW + "\\s[" + SET + "}.\\s{\\count1=6\\relax].%", "(5)(6)");
    }

    /** "spaces (tokens of category 10) are got and dropped" before an argument with no delimiter, not before others. */
    private static void spacesBeforeArguments() {
        Check.prints("\\def~#1{(#1)}~ x%", "(x)");
        Check.prints("\\def~#1#2{(#1|#2)}~ x y%", "(x|y)");
        Check.prints("\\def~#1#2{(#1|#2)}~ {x} {y} z%", "(x|y) z");
        Check.prints("\\def~#1{(#1)}~{ x}%", "( x)");
        Check.prints("\\def~#1.{(#1)}~ x .%", "( x )");
        Check.prints("\\def~#1#2.{(#1|#2)}~ x y.%", "(x| y)");
        Check.prints("\\def~#1{(#1)}\\def\\a#1#2{~#1#1#1#2}\\a{ }x%", "(x)");
        Check.prints("\\catcode32=12\\relax\\def~#1{(#1)}~ x%", "( )x");
    }

    /** "of category 2: FAULT 5", and "A token of category 2 that closes none: FAULT 5." */
    private static void closingNone() {
        Check.fails("\\def\\a#1{}%\n\\a}", 50002, "");
        Check.fails("\\def~#1{}%\n~ }", 50002, "");
        Check.fails("\\def\\a#1#2{}%\n\\a x}", 50002, "");
        Check.fails("\\def\\a#1.{}%\n\\a}.", 50002, "");
        Check.fails("\\def\\a#1.{}%\n\\a x{}}.", 50002, "");
        Check.fails("\\def\\a#1#2.{}%\n\\a x}.", 50002, "");
        Check.fails("\\def\\a .{}%\n\\a}", 40002, "");
        Check.prints("\\let\\e=}\\def\\a#1.{}\\a\\e.\\def\\a#1{}\\a\\e%", "");
    }

    /** "each must be the SAME token (...; marks aside): otherwise FAULT 4". */
    private static void firstDelimiters() {
        Check.prints("\\def\\a .{x}\\a.%", "x");
        Check.prints("\\def\\a.,\\b~;{x}\\a.,\\b~;y%", "xy");
        Check.fails("\\def\\a.,;{x}%\n\\a.,:", 40002, "");
        Check.fails("\\def\\a.,;{x}%\n\\a,", 40002, "");
        Check.fails("\\def\\a.,;{x}%\n\\a.;", 40002, "");
        Check.fails("\\def\\a.{x}%\n\\a{.}", 40002, "");
        Check.fails("\\def\\a.{x}\\def\\b{.}%\n\\a\\b", 40002, "");
        Check.fails("\\def~.{x}%\n~ .", 40002, "");
        Check.prints("\\def~ .{x}~ .~  .%", "xx");
        Check.prints("\\def\\a.#1{(#1)}\\a..%", "(.)");
        Check.prints("\\def\\a.#1.{(#1)}\\a.x.%", "(x)");
    }

    private static void lastDelimiters() {
        Check.prints("\\def\\a#1aab{(#1)}\\a aab\\a aaab\\a aaaab\\a aabaab%", "()(a)(aa)()aab");
        Check.prints("\\def\\a#1abab{(#1)}\\a aababab\\a ababab%", "(a)ab()ab");
        Check.prints("\\def\\a#1ab{(#1)}\\a a{}b{ab}ab%", "(abab)");
        Check.prints("\\def\\a#1.{(#1)}\\a{.}x.%", "(.x)");
        Check.prints("\\def\\a#1,#2.{(#1|#2)}\\a x.y,z.%", "(x.y|z)");
        Check.prints("\\def\\a#1,#2.{(#1|#2)}\\a{x,y}{z,},{.,}.%", "(x,yz,|.,)");
        Check.prints("\\def\\a#1..{(#1)}\\a x.y..%", "(x.y)");
        Check.prints("\\def\\a#1" + Check.times(30, ".") + "{(#1)}\\a x" + Check.times(29, ".") + "y" + Check.times(30, ".") + ";%",
                "(x" + Check.times(29, ".") + "y);");
    }

    /** "same character and category, same name, same active character; marks aside". */
    private static void sameTokens() {
        same(" x", "", " x", true);
        same(" x", "", " y", false);
        same(" x", "\\catcode`x=12\\relax", " x", false);
        same(" x", "", "\\x", false);
        same("\\x", "", " x", false);
        same("\\x", "", "\\x", true);
        same("\\x", "\\let\\y=\\x", "\\y", false);
        same("\\x", "", "\\xx", false);
        same("\\~", "", "~", false);
        same("~", "", "\\~", false);
        same("~", "", "~", true);
        same("~", "\\catcode`~=12\\relax", "~", false);
        same("~", "\\catcode`!=13\\relax", "!", false);
        same("~", "\\let~=.", ".", false);
        Check.prints("\\def\\b{}\\def\\a#1\\b{(#1)}\\expandafter\\a\\expandafter x\\noexpand\\b;%", "(x);");
        Check.prints("\\def~{}\\def\\a~{(x)}\\expandafter\\a\\noexpand~;%", "(x);");
    }

    /** A macro with that delimiter, and behind it and a setting that token. */
    private static void same(String delimiter, String setting, String token, boolean isSame) {
        Check.fails("\\def\\a" + delimiter + "{(x)}" + setting + "\\a" + token + ";%", isSame ? 0 : 40001, isSame ? "(x);" : "");
        Check.fails("\\def\\a#1" + delimiter.trim() + "{(x)}" + setting + "\\a" + token + ";%", isSame ? 0 : 90001, isSame ? "(x);" : "");
    }
}
