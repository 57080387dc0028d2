/** Promise 3, macros: delimiters, parameters, arguments, bodies. */
public final class MacroTest {
    public static void main(String[] args) {
        plain();
        undelimited();
        delimited();
        braces();
        firstDelimiters();
        definitions();
        expandedDefinitions();
        comparing();
        Check.end();
    }

    private static void plain() {
        Check.printsIn(4, "\\def\\a{xy}\\a%", "xy");
        Check.printsIn(2, "\\def\\a{}\\a%", "");
        Check.prints("\\def\\a{{\\count1=3 \\the\\count1}}\\a\\the\\count1 %", "30");
        Check.prints("\\def\\a{x}\\def\\b{\\a}\\def\\a{y}\\b%", "y");
    }

    private static void undelimited() {
        Check.prints("\\def\\a#1{(#1)}\\a x\\a{yz}\\a  {{w}}\\a{}%", "(x)(yz)(w)()");
        Check.prints("\\def\\a#1#2{#2#1}\\a xy\\a {1} {2}%", "yx21");
        Check.prints("\\def~#1{(#1)}~   x%", "(x)");
        Check.prints("\\def\\a#1{(#1)}\\a\n\n  x%", "(\n)x");
        Check.prints("\\def\\a#1{\\def\\b##1{#1##1}}\\a x\\b y%", "xy");
        Check.fails("\\def\\a#1{}{\\a}", 50001, "");
        Check.fails("\\def\\a#1{}\\a", 90001, "");
        Check.fails("\\def\\a#1{}\\a{x\n", 90001, "");
        Check.fails("\\def\\a#1{}\\a{x\n{}\n", 90002, "");
    }

    private static void delimited() {
        Check.prints("\\def\\a#1.{(#1)}\\a.\\a x.\\a xyz.%", "()(x)(xyz)");
        Check.prints("\\def\\a#1,#2.{(#1|#2)}\\a x,y.\\a,,.%", "(x|y)(|,)");
        Check.prints("\\def\\a#1ab{(#1)}\\a aab\\a aaab\\a bab%", "(a)(aa)(b)");
        Check.prints("\\def\\a#1aab{(#1)}\\a aaab%", "(a)");
        Check.prints("\\def\\a#1 {(#1)}\\a xy z%", "(xy)z");
        Check.prints("\\def\\a#1\\fi{[#1]}\\a z\\fi%", "[z]");
        Check.prints("\\def\\a#1\\b{[#1]}\\a x\\a\\b\\b%", "[x[]]");
        Check.prints("\\def\\a#1#2.{(#1|#2)}\\a xyz.\\a x.%", "(x|yz)(x|)");
        Check.prints("\\def\\a#1.#2{(#1|#2)}\\a x. {yz}%", "(x|yz)");
        Check.prints("\\catcode`!=13 \\def\\a#1!{(#1)}\\a x!%", "(x)");
        Check.prints("\\def\\a#1*{(#1)}\\catcode`!=12 \\a x!*%", "(x!)");
        Check.fails("\\def\\a#1*{(#1)}\\catcode`*=11 \\a x*%", 90001, "");
        Check.fails("\\def\\a#1.{}\\a x}.", 50001, "");
        Check.fails("\\def\\a#1.{}\\a x\n{.\n", 90002, "");
    }

    private static void braces() {
        Check.prints("\\def\\a#1.{\\b#1;}\\def\\b#1#2;{(#1|#2)}\\a{xy}.%", "(x|y)");
        Check.prints("\\def\\a#1.{\\b#1;}\\def\\b#1#2;{(#1|#2)}\\a{xy}z.%", "(xy|z)");
        Check.prints("\\def\\a#1.{\\b#1;}\\def\\b#1#2;{(#1|#2)}\\a{xy}{z}.%", "(xy|z)");
        Check.prints("\\def\\a#1.{\\b#1;}\\def\\b#1#2;{(#1|#2)}\\a{{xy}z}.%", "(xy|z)");
        Check.prints("\\def\\a#1.{(#1)}\\a{}.\\a{.}.%", "()(.)");
        Check.prints("\\def\\a#1.{\\b#1;}\\def\\b#1;{(#1)}\\a{{x}}.%", "(x)");
        Check.prints("\\def~#1.{\\b#1;}\\def\\b#1#2;{<#1|#2>}~ {xy}.%", "<xy|>");
    }

    private static void firstDelimiters() {
        Check.prints("\\def\\a ab#1{(#1)}\\a abc%", "(c)");
        Check.prints("\\def\\a=\\relax{x}\\a=\\relax y%", "xy");
        Check.prints("\\def\\a~{x}\\a~y%", "xy");
        Check.prints("\\def\\a\\b{x}\\def\\b{}\\expandafter\\a\\noexpand\\b y%", "xy");
        Check.prints("\\def\\a#1\\b{(#1)}\\def\\b{}\\expandafter\\a\\noexpand\\b y%", "()y");
        Check.fails("\\def\\a b{x}\\a c", 40001, "");
        Check.fails("\\def\\a b{x}\\catcode`b=12 \\a b", 40001, "");
        Check.fails("\\def\\a~{x}\\catcode`~=12 \\a~", 40001, "");
        Check.fails("\\def\\a\\b{x}\\let\\c=\\b\n\\a\\c", 40002, "");
        Check.fails("\\def\\a bc{x}\\a b%", 90001, "");
    }

    private static void definitions() {
        Check.prints("\\def\\a#1#2#3#4#5#6#7#8#9{#9#8#7#6#5#4#3#2#1}\\a123456789%", "987654321");
        Check.prints("\\def  \\a{x}\\a%", "x");
        Check.prints("\\def~ \\a{x}~ \\a%", "x");
        Check.prints("\\def\\a{y}\\expandafter\\def\\noexpand\\a{x}\\a%", "x");
        Check.prints("\\def\\a{\\def\\b{####}\\string}\\a#%", "#");
        Check.fails("\\def\\a{\\def\\b{##}}\\a", 120001, "");
        Check.prints("\\def\\def{x}\\def%", "x");
        Check.prints("\\def\\par{P}a\n\nb%", "a Pb");
        Check.fails("\\def a{}", 60001, "");
        Check.fails("\\def{}", 60001, "");
        Check.fails("\\def\\a}", 50001, "");
        Check.fails("\\def\\a#1#1{}", 120001, "");
        Check.fails("\\def\\a#2{}", 120001, "");
        Check.fails("\\def\\a#0{}", 120001, "");
        Check.fails("\\def\\a#{}", 120001, "");
        Check.fails("\\def\\a#}", 120001, "");
        Check.fails("\\def\\a##{}", 120001, "");
        Check.fails("\\def\\a#1#2#3#4#5#6#7#8#9#:{}", 120001, "");
        Check.fails("\\catcode`1=11 \\def\\a#1{}", 120001, "");
        Check.fails("\\def\\a#1{#2}", 120001, "");
        Check.fails("\\def\\a#1{#0}", 120001, "");
        Check.fails("\\def\\a{#1}", 120001, "");
        Check.fails("\\def\\a{#}", 120001, "");
        Check.fails("\\def\\a{# #}", 120001, "");
        Check.fails("\\def\\a{##}\\a", 120001, "");
        Check.fails("\\def", 90001, "");
        Check.fails("\\def\\a", 90001, "");
        Check.fails("\\def\\a#", 120001, "");
        Check.fails("\\def\\a#%", 90001, "");
        Check.fails("\\def\\a{x{}\n", 90001, "");
        Check.fails("\\def\\a{x{}#%\n", 90001, "");
    }

    private static void expandedDefinitions() {
        Check.prints("\\def\\a{1}\\edef\\b{\\a\\relax\\noexpand\\a}\\def\\a{2}\\b%", "12");
        Check.prints("\\edef\\b#1{#1\\undefined}\\def\\undefined{u}\\b z%", "zu");
        Check.prints("\\count1=7 \\edef\\a{\\the\\count1}\\count1=8 \\a%", "7");
        Check.prints("\\def\\h{##}\\edef\\a#1{\\h1}\\a x%", "x");
        Check.prints("\\edef\\a#1{#\\number1 ;}\\a x%", "x;");
        Check.prints("\\edef\\a{##}\\def\\b#1{\\string#1}\\edef\\c{\\noexpand\\b\\a#}\\c%", "#");
        Check.prints("\\edef\\a{\\iftrue x}y\\fi\\a%", "yx");
        Check.prints("{\\xdef\\a{x}\\gdef\\b{y}\\edef\\c{z}\\def\\d{w}}\\a\\b%", "xy");
        String[] expanded = {"\\edef", "\\xdef", "\\global\\edef", "\\global\\xdef"};
        for (String definition : expanded) {
            Check.prints("\\def\\a{1}" + definition + "\\b{\\a}\\def\\a{2}\\b%", "1");
        }
        String[] kept = {"\\def", "\\gdef", "\\global\\def", "\\global\\gdef"};
        for (String definition : kept) {
            Check.prints("\\def\\a{1}" + definition + "\\b{\\a}\\def\\a{2}\\b%", "2");
        }
        String[] global = {"\\gdef", "\\xdef", "\\global\\def", "\\global\\edef", "\\global\\gdef", "\\global\\xdef"};
        for (String definition : global) {
            Check.prints("\\def\\b{0}{{" + definition + "\\b{1}\\b}\\b}\\b%", "111");
        }
        Check.prints("\\def\\b{0}{{\\def\\b{1}\\b}\\b}\\b{{\\edef\\b{1}\\b}\\b}\\b%", "100100");
        Check.fails("{\\edef\\c{z}}\\c", 110001, "");
        Check.fails("{\\def\\c{z}}\\c", 110001, "");
        Check.fails("\\edef\\a{\\iffalse}\\fi", 90001, "");
        Check.printsIn(3, "\\edef\\a{\\number1 \\relax}\\edef\\a{}%", "");
        Check.fails("\\def\\h{##}\\edef\\a{\\h}", 120001, "");
        Check.fails("\\edef\\a{\\a\n", 90001, "");
        Check.fails("\\def\\x{\\x}\\edef\\a{\\x}", 100001, "");
    }

    private static void comparing() {
        same("\\def\\a{x}\\def\\b{x}", true);
        same("\\def\\a{x}\\def\\b{y}", false);
        same("\\def\\a{x}\\def\\b{xx}", false);
        same("\\def\\a{}\\def\\b{}", true);
        same("\\def\\a{}\\def\\b{x}", false);
        same("\\def\\a#1{}\\def\\b{}", false);
        same("\\def\\a#1{#1}\\def\\b#1{#1}", true);
        same("\\def\\a#1#2{#1}\\def\\b#1#2{#2}", false);
        same("\\def\\a#1.{#1}\\def\\b#1{.#1}", false);
        same("\\def\\a#1.{#1}\\def\\b#1,{#1}", false);
        same("\\def\\a.{x}\\def\\b{.x}", false);
        same("\\def\\a{##}\\def\\b#1{#1}", false);
        same("\\def\\a{@}\\catcode`@=11 \\def\\b{@}", false);
        same("\\gdef\\a{x}\\edef\\b{\\noexpand x}", true);
        same("\\def\\c{}\\def\\a{\\c}\\edef\\b{\\noexpand\\c}", true);
        same("\\def\\a{\\c}\\def\\b{\\c}\\def\\c{}", true);
        same("\\def\\a{\\c}\\def\\b{\\d}", false);
        same("\\def\\a{x}\\let\\b=\\a\\def\\a{y}", false);
    }

    private static void same(String text, boolean isSame) {
        Check.prints(text + "\\ifx\\a\\b s\\else d\\fi%", isSame ? "s" : "d");
    }
}
