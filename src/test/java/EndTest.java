/** Promise 3, the end of the text: fault 9 within each thing that is not over, and where it is no fault. */
public final class EndTest {
    public static void main(String[] args) {
        withinMacros();
        withinExpandablePrimitives();
        withinConditions();
        withinDroppedTokens();
        withinNumbers();
        withinDefinitions();
        withinAssignments();
        withinGlobal();
        withinGroupsAndOpenConditions();
        noFault();
        noFaultBehindNumbers();
        Check.end();
    }

    /** The text ends there: with nothing behind, a line later, and two lines later. */
    private static void within(String text) {
        Check.fails(text + "%", 90001, "");
        Check.fails(text + "%\n", 90001, "");
        Check.fails(text + "%\n%", 90002, "");
        Check.fails("%\n" + text + "%\n%\n", 90003, "");
    }

    private static void withinMacros() {
        within("\\def\\a bc{}\\a");
        within("\\def\\a bc{}\\a b");
        within("\\def\\a#1{}\\a");
        within("\\def~#1{}~ ");
        within("\\def~#1{}\\def\\a#1{~#1#1}\\a{ }");
        within("\\def\\a#1{}\\a{");
        within("\\def\\a#1{}\\a{x");
        within("\\def\\a#1{}\\a{{x}");
        within("\\def\\a#1#2{}\\a x");
        within("\\def~#1#2{}~x ");
        within("\\def\\a#1#2{}\\a{x}{");
        within("\\def\\a#1.{}\\a");
        within("\\def\\a#1.{}\\a x");
        within("\\def\\a#1.{}\\a{x}");
        within("\\def\\a#1.{}\\a{.");
        within("\\def\\a#1.,{}\\a x.");
        within("\\def\\a#1.#2{}\\a x.");
        within("\\def\\a#1.#2.{}\\a x.y");
        within("\\def\\b{\\a}\\def\\a#1{}\\b");
    }

    private static void withinExpandablePrimitives() {
        within("\\expandafter");
        within("\\expandafter a");
        within("\\expandafter a\\expandafter");
        within("\\expandafter a\\expandafter b");
        within("\\def\\a#1{}\\expandafter\\relax\\a");
        within("\\noexpand");
        within("\\string");
        within("\\csname");
        within("\\csname a");
        within("\\csname\\string");
        within("\\csname a\\iftrue b");
        within("\\number");
        within("\\number-");
        within("\\number+");
        within("\\romannumeral");
        within("\\romannumeral -");
        within("\\the");
        within("\\the\\count");
        within("\\the\\catcode-");
        within("\\the\\count`");
        within("\\the\\iftrue");
    }

    private static void withinConditions() {
        within("\\if");
        within("\\if a");
        within("\\ifcat");
        within("\\ifcat a");
        within("\\ifx");
        within("\\ifx a");
        within("\\if\\relax");
        within("\\ifcat\\relax");
        within("\\ifx\\q");
        within("\\ifnum");
        within("\\ifnum1");
        within("\\ifnum1 ");
        within("\\let~=\\count\\ifnum~1 ");
        within("\\ifnum1<");
        within("\\ifnum1< ");
        within("\\ifnum1<-");
        within("\\ifodd");
        within("\\ifcase");
    }

    /** "When the text is at its end while tokens are dropped: FAULT 9." */
    private static void withinDroppedTokens() {
        within("\\iffalse");
        within("\\iffalse x");
        within("\\iffalse\\iftrue\\fi");
        within("\\iffalse\\iftrue\\else\\fi");
        within("\\if ab");
        within("\\ifcat a1");
        within("\\ifx\\par\\q");
        within("\\ifnum1>1");
        within("\\ifodd2");
        within("\\ifcase1");
        within("\\ifcase2 \\or");
        within("\\ifcase-1 \\or\\or");
        within("\\iftrue\\else");
        within("\\iftrue\\else\\else");
        within("\\iftrue\\else\\iftrue\\fi");
        within("\\ifcase0 \\or");
        within("\\ifcase0 \\else\\or");
        within("\\if a\\iftrue b\\fi");
        within("\\if a\\iftrue b\\else");
    }

    private static void withinNumbers() {
        String[] before = {"", " ", "+", "-", "- -", "`", "-`", "\\count", "\\catcode", "\\count-", "\\count\\count", "\\iftrue"};
        for (String begun : before) {
            within("\\count1=" + begun);
            within("\\count" + begun);
            within("\\catcode65=" + begun);
            within("\\chardef\\x=" + begun);
            within("\\ifodd" + begun);
            within("\\ifnum1=" + begun);
            within("\\ifcase" + begun);
            within("\\number" + begun);
            within("\\advance\\count1 by" + begun);
        }
        within("\\count1=1\\string");
        within("\\count1=`a\\string");
        within("\\count1=1\\csname");
        within("\\count1=1\\iffalse");
    }

    private static void withinDefinitions() {
        String[] definitions = {"\\def", "\\edef", "\\gdef", "\\xdef", "\\global\\def"};
        String[] behind = {"", "\\a", "~", "\\a x", "\\a xyz", "\\a#", "\\a#1", "\\a#1#", "\\a{", "\\a{x", "\\a{x{}", "\\a{{x}", "\\a{#",
            "\\a{##", "\\a#1{#", "\\a#1{#1", "\\a#1.{"};
        for (String definition : definitions) {
            for (String part : behind) {
                within(definition + part);
            }
        }
        within("\\let~=\\def~ ");
        within("\\let~=\\def\\def\\b#1{~#1#1}\\b{ }");
        within("\\edef\\a{\\iftrue");
        within("\\edef\\a{\\iffalse}");
        within("\\edef\\a{\\string");
        within("\\edef\\a{\\noexpand");
        within("\\edef\\a{#\\string");
        within("\\edef\\a{\\number1");
    }

    private static void withinAssignments() {
        within("\\let");
        within("\\let\\a");
        within("\\let\\a=");
        within("\\let\\a= ");
        within("\\let\\a =");
        within("\\let~=\\let~ ");
        within("\\let~=\\let\\def\\b#1{~#1#1}\\b{ }");
        within("\\let\\1 ");
        within("\\let\\def\\let\\def\\1 ");
        within("\\chardef");
        within("\\chardef\\a");
        within("\\chardef\\a=");
        within("\\chardef\\1 ");
        within("\\count");
        within("\\count1");
        within("\\count1 ");
        within("\\count1=");
        within("\\count1 = ");
        within("\\catcode");
        within("\\catcode65");
        within("\\catcode65=");
        String[] arithmetic = {"\\advance", "\\multiply", "\\divide"};
        for (String change : arithmetic) {
            within(change);
            within("\\let~=" + change + "~ ");
            within(change + "\\count");
            within(change + "\\count1");
            within(change + "\\count1 ");
            within(change + "\\count1  ");
            within(change + "\\count1 b");
            within(change + "\\count1 B");
            within(change + "\\count1 by");
            within(change + "\\count1 by ");
            within(change + "\\count1 by-");
            within(change + "\\iftrue");
        }
    }

    private static void withinGlobal() {
        within("\\global");
        within("\\let~=\\global~ ");
        within("\\global\\relax");
        within("\\global\\global");
        within("\\global\\iftrue");
        within("\\global\\let");
        within("\\global\\chardef\\a");
        within("\\global\\count1");
        within("\\global\\catcode65");
        within("\\global\\advance");
        within("\\global\\multiply\\count1");
        within("\\global\\divide\\count1 by");
        within("\\global\\edef\\a{");
    }

    /** "When the run is at its end (by end, too) with a group or a condition open: FAULT 9." */
    private static void withinGroupsAndOpenConditions() {
        String[] open = {"{", "\\begingroup", "{{}", "{\\begingroup\\endgroup", "\\iftrue", "\\ifcase0 ", "\\ifcase1 \\or",
            "\\iffalse\\else", "\\ifcase5 \\else", "\\ifodd1", "\\ifnum1=1", "\\if aa", "\\if\\iftrue aa\\fi", "{\\iftrue}\\fi{", "{\\iftrue}"};
        for (String text : open) {
            within(text);
            Check.fails(text + "\\end", 90001, "");
            Check.fails(text + "%\n\\end\n}\\fi", 90002, "");
        }
        Check.fails("{\\end}", 90001, "");
        Check.fails("\\iftrue\\end\\fi", 90001, "");
        Check.fails("x{y\n\nz", 90003, "xy \nz ");
    }

    private static void over(String text, String out) {
        Check.prints(text + "%", out);
        Check.prints(text + "%\n", out);
        Check.prints(text + "%\n%", out);
        Check.prints(text + "\\end", out);
        Check.prints(text + "\\end{\\iftrue\\def}\u007f\n}\\fi", out);
    }

    private static void noFault() {
        over("", "");
        over("a", "a");
        over("{}", "");
        over("{\\iftrue}\\fi", "");
        over("\\begingroup\\endgroup", "");
        over("\\iftrue\\fi", "");
        over("\\iffalse\\fi", "");
        over("\\iftrue\\else\\fi", "");
        over("\\ifcase3 \\or\\or\\fi", "");
        over("\\def\\a{}", "");
        over("\\def\\a{x}\\a", "x");
        over("\\def\\a#1{(#1)}\\a x", "(x)");
        over("\\def\\a#1.{(#1)}\\a x.", "(x)");
        over("\\let\\x=a", "");
        over("\\let\\x a", "");
        over("\\expandafter ab", "ab");
        over("\\noexpand a", "a");
        over("\\string a", "a");
        over("\\csname a\\endcsname", "");
        over("\\relax", "");
        over("\\par", "\n");
        Check.prints("\\let\\e\\end a\\e b", "a");
        Check.fails("\\end\n}", 0, "");
        Check.fails("\n\n\\end}", 0, "\n\n");
    }

    /** "behind its digits, or the character behind `, that is no fault". */
    private static void noFaultBehindNumbers() {
        String[] numbers = {"7", "+7", "--7", "07", "`\u0007", "`\\\u0007", "\\count2", "\\x", "-\\catcode`~"};
        for (String number : numbers) {
            long value = number.startsWith("-\\") ? -13 : 7;
            Check.counts("\\chardef\\x=7 \\count2=7 \\count1=" + number + "%", 1, value);
            Check.counts("\\chardef\\x=7 \\count2=7 \\count1=" + number + "%\n%\n", 1, value);
            Check.counts("\\chardef\\x=7 \\count2=7 \\global\\count1=" + number + "%", 1, value);
            Check.counts("\\chardef\\x=7 \\count2=7 \\advance\\count1 by" + number + "%", 1, value);
            Check.counts("\\chardef\\x=7 \\count2=7 \\count1=" + number + "\\iftrue\\fi%", 1, value);
            Check.prints("\\chardef\\x=7 \\count2=7 \\number" + number + "%", Long.toString(value));
            Check.prints("\\chardef\\x=7 \\count2=7 \\romannumeral" + number + "%", value > 0 ? "vii" : "");
        }
        Check.prints("\\the\\count7%", "0");
        Check.prints("\\the\\catcode`a%", "11");
        Check.failsIn(1, "\\chardef\\x=7%", 0);
        Check.failsIn(1, "\\catcode65=7%", 0);
        Press press = Check.fails("\\count1=7\\iftrue%", 90001, "");
        Check.due("the number is over, the condition is not", press.count(1), 7);
        press = Check.fails("\\count1=7\\iffalse%", 90001, "");
        Check.due("the number is not over", press.count(1), 0);
    }
}
