/** Promises 3 and 7, boundaries of numbers: 2147483647 and its like, 0 .. 255, 0 .. 15, Roman numerals, ifcase. */
public final class NumberBoundsTest {
    public static void main(String[] args) {
        largestNumbers();
        digitThatIsTooMuch();
        signs();
        largestSums();
        largestProducts();
        quotients();
        zeroTo255();
        zeroTo15();
        charactersOfNumbers();
        romanNumerals();
        cases();
        comparisons();
        Check.end();
    }

    private static final String[] NUMBERS = {"0", "1", "2147483646", "2147483647", "00000000000000000002147483647"};

    /** "A number above 2147483647: FAULT 7". */
    private static void largestNumbers() {
        for (String number : NUMBERS) {
            long value = Long.parseLong(number);
            Check.prints("\\number" + number + " %", Long.toString(value));
            Check.prints("\\number-" + number + " %", Long.toString(-value));
            Check.counts("\\count1=" + number + " %", 1, value);
            Check.counts("\\count1=-" + number + "%", 1, -value);
            Check.counts("\\count1=--" + number + "%", 1, value);
            Check.prints("\\count1=-" + number + " \\the\\count1%", Long.toString(-value));
        }
        String[] more = {"2147483648", "2147483650", "2147483657", "3000000000", "4294967295", "4294967296", "4294967297",
            "9999999999", "21474836470", "9223372036854775807", "9223372036854775808", "18446744073709551616", "18446744073709551617",
            "99999999999999999999999999999999999999999999", "0002147483648"};
        for (String number : more) {
            Check.failsIn(1, "\\number" + number + " ", 70001);
            Check.failsIn(1, "\\number-" + number + " ", 70001);
            Check.failsIn(1, "\\romannumeral" + number + " ", 70001);
            Check.failsIn(1, "\\romannumeral-" + number + " ", 70001);
            Check.failsIn(1, "\\count1=" + number + " ", 70001);
            Check.failsIn(1, "\\count1=-" + number + " ", 70001);
            Check.failsIn(1, "\\count" + number + "=1 ", 70001);
            Check.failsIn(1, "\\ifnum" + number + ">1 ", 70001);
            Check.failsIn(1, "\\ifnum1<" + number + " ", 70001);
            Check.failsIn(1, "\\ifodd" + number + " ", 70001);
            Check.failsIn(1, "\\ifcase" + number + " ", 70001);
            Check.failsIn(1, "\\chardef\\x=" + number + " ", 70001);
            Check.failsIn(1, "\\advance\\count1 by" + number + " ", 70001);
        }
        Check.counts("\\count1=0" + Check.times(3000, "0") + "5%", 1, 5);
    }

    /** "at the digit that makes it so": what is behind that digit is not got. */
    private static void digitThatIsTooMuch() {
        Check.failsIn(1, "\\count1=2147483648\u007f", 70001);
        Check.failsIn(1, "\\count1=2147483647\u007f", 10001);
        Check.failsIn(1, "\\count1=214748364\u007f", 10001);
        Check.failsIn(1, "\\count1=214748364%\n8%\n8", 70002);
        Check.failsIn(1, "\\count1=2147483648\\iffalse", 70001);
        Check.failsIn(2, "\\count1=2147483647\\iffalse", 90001);
    }

    /** "An odd number of - makes it less." */
    private static void signs() {
        String[] signs = {"", "+", "++", "-", "--", "---", "+-", "-+-", " - ", "- -", " + - - - "};
        for (String sign : signs) {
            long minus = sign.chars().filter(c -> c == '-').count();
            Check.counts("\\count1=" + sign + "5%", 1, minus % 2 == 1 ? -5 : 5);
            Check.counts("\\count1=" + sign + "0%", 1, 0);
            Check.counts("\\count1=" + sign + "`a%", 1, minus % 2 == 1 ? -97 : 97);
            Check.counts("\\count2=-9 \\count1=" + sign + "\\count2%", 1, minus % 2 == 1 ? 9 : -9);
            Check.counts("\\count1=" + sign + "\\catcode`a%", 1, minus % 2 == 1 ? -11 : 11);
            Check.counts("\\chardef\\x=8 \\count1=" + sign + "\\x%", 1, minus % 2 == 1 ? -8 : 8);
        }
        Check.counts("\\count1=" + Check.times(3001, "-") + "1%", 1, -1);
        Check.printsIn(2, "\\count1=5-%", "-");
    }

    private static void becomes(String begin, String change, long end) {
        Check.counts("\\count1=" + begin + " " + change + " %", 1, end);
    }

    private static void isTooMuch(String begin, String change) {
        Press press = Check.failsIn(2, "\\count1=" + begin + " " + change + " ", 70001);
        Check.due(change + " leaves the counter", press.count(1), Long.parseLong(begin));
    }

    /** "FAULT 7 when it is above 2147483647 or below -2147483647". */
    private static void largestSums() {
        becomes("2147483647", "\\advance\\count1 by0", 2147483647);
        becomes("2147483646", "\\advance\\count1 by1", 2147483647);
        becomes("1", "\\advance\\count1 by2147483646", 2147483647);
        becomes("-2147483647", "\\advance\\count1 by0", -2147483647);
        becomes("-2147483646", "\\advance\\count1 by-1", -2147483647);
        becomes("-2147483647", "\\advance\\count1 by2147483647", 0);
        becomes("2147483647", "\\advance\\count1 by-2147483647", 0);
        becomes("2147483647", "\\advance\\count1 by-1", 2147483646);
        isTooMuch("2147483647", "\\advance\\count1 by1");
        isTooMuch("1", "\\advance\\count1 by2147483647");
        isTooMuch("2147483647", "\\advance\\count1 by2147483647");
        isTooMuch("2147483647", "\\advance\\count1 by\\count1");
        isTooMuch("-2147483647", "\\advance\\count1 by-1");
        isTooMuch("-1", "\\advance\\count1 by-2147483647");
        isTooMuch("-2147483647", "\\advance\\count1 by-2147483647");
        isTooMuch("-2147483647", "\\global\\advance\\count1 by-1");
    }

    private static void largestProducts() {
        becomes("2147483647", "\\multiply\\count1 by1", 2147483647);
        becomes("2147483647", "\\multiply\\count1 by-1", -2147483647);
        becomes("-2147483647", "\\multiply\\count1 by-1", 2147483647);
        becomes("-2147483647", "\\multiply\\count1 by0", 0);
        becomes("1073741823", "\\multiply\\count1 by2", 2147483646);
        becomes("-1073741823", "\\multiply\\count1 by2", -2147483646);
        becomes("46340", "\\multiply\\count1 by46340", 2147395600);
        becomes("65536", "\\multiply\\count1 by32767", 2147418112);
        isTooMuch("1073741824", "\\multiply\\count1 by2");
        isTooMuch("-1073741824", "\\multiply\\count1 by2");
        isTooMuch("46341", "\\multiply\\count1 by46341");
        isTooMuch("65536", "\\multiply\\count1 by32768");
        isTooMuch("65536", "\\multiply\\count1 by-32768");
        isTooMuch("65536", "\\multiply\\count1 by65536");
        isTooMuch("-65536", "\\multiply\\count1 by65536");
        isTooMuch("2147483647", "\\multiply\\count1 by2");
        isTooMuch("2147483647", "\\multiply\\count1 by2147483647");
        isTooMuch("2147483647", "\\multiply\\count1 by-2147483647");
        isTooMuch("-2147483647", "\\multiply\\count1 by-2147483647");
    }

    /** "the quotient, rounded towards 0. FAULT 7 ... when it is divided by 0." */
    private static void quotients() {
        becomes("2147483647", "\\divide\\count1 by1", 2147483647);
        becomes("2147483647", "\\divide\\count1 by-1", -2147483647);
        becomes("-2147483647", "\\divide\\count1 by-1", 2147483647);
        becomes("2147483647", "\\divide\\count1 by2147483647", 1);
        becomes("2147483646", "\\divide\\count1 by2147483647", 0);
        becomes("-2147483646", "\\divide\\count1 by2147483647", 0);
        becomes("1", "\\divide\\count1 by2", 0);
        becomes("-1", "\\divide\\count1 by2", 0);
        becomes("3", "\\divide\\count1 by2", 1);
        becomes("-3", "\\divide\\count1 by2", -1);
        becomes("3", "\\divide\\count1 by-2", -1);
        becomes("-3", "\\divide\\count1 by-2", 1);
        becomes("4", "\\divide\\count1 by-2", -2);
        becomes("0", "\\divide\\count1 by7", 0);
        isTooMuch("1", "\\divide\\count1 by0");
        isTooMuch("0", "\\divide\\count1 by0");
        isTooMuch("-2147483647", "\\divide\\count1 by-0");
        isTooMuch("5", "\\divide\\count1 by\\count2");
    }

    /** Where a NUMBER must be 0 .. 255: before and behind it as much as makes a text of it. */
    private static final String[][] BYTES = {{"\\count", "=1 "}, {"\\global\\count", "=1 "}, {"\\catcode", "=12 "},
        {"\\the\\count", " "}, {"\\the\\catcode", " "}, {"\\number\\count", " "}, {"\\count1=\\count", " "},
        {"\\count1=\\catcode", " "}, {"\\chardef\\x=", " "}, {"\\chardef\\x", " "}, {"\\global\\chardef\\x=", " "},
        {"\\advance\\count", " by1 "}, {"\\multiply\\count", " by1 "}, {"\\divide\\count", " by1 "}, {"\\ifodd\\count", " \\fi\\iftrue\\fi"},
        {"\\ifnum0=\\catcode", " \\fi\\iftrue\\fi"}, {"\\ifcase\\count", " \\fi\\iftrue\\fi"}, {"\\romannumeral\\count", " "}};

    private static void zeroTo255() {
        String[] some = {"0", "-0", "1", "254", "255", "00255"};
        String[] none = {"-1", "256", "257", "-255", "-256", "511", "512", "65536", "65537", "2147483647", "-2147483647"};
        for (String[] place : BYTES) {
            for (String number : some) {
                Check.due(place[0] + number + place[1], answer(place[0] + number + place[1] + "%"), 0);
            }
            for (String number : none) {
                Check.due(place[0] + number + place[1], answer("%\n" + place[0] + number + place[1] + "%"), 70002);
            }
        }
        Check.prints("\\count0=3 \\count255=4 \\count254=5 \\the\\count0 \\the\\count255 \\the\\count254 %", "345");
        Check.prints("\\catcode255=13 \\def\u00ff{x}\u00ff\\the\\catcode255 \\the\\catcode254 %", "x1312");
        Check.prints("\\catcode0=12 \0\\the\\catcode0 \\the\\catcode1 %", "\0" + "1212");
        Check.prints("\\chardef\\x=0 \\chardef\\y=255 \\x\\y\\the\\x:\\the\\y%", "\0\u00ff0:255");
        Check.counts("\\advance\\count255 by3 \\multiply\\count255 by4 \\divide\\count255 by2 %", 255, 6);
        Check.counts("\\advance\\count0 by3 \\multiply\\count0 by4 \\divide\\count0 by2 %", 0, 6);
    }

    private static int answer(String text) {
        Press press = new Press();
        Check.type(press, text);
        return press.run(30000);
    }

    /** "for catcode 0 .. 15, FAULT 7". */
    private static void zeroTo15() {
        for (int category = 0; category <= 15; category++) {
            Check.prints("\\catcode65=" + category + " \\the\\catcode65 %", Integer.toString(category));
            Check.prints("{\\global\\catcode65 " + category + " }\\the\\catcode65 %", Integer.toString(category));
        }
        String[] none = {"-1", "16", "17", "255", "256", "-15", "2147483647", "-2147483647"};
        for (String category : none) {
            Check.failsIn(1, "%\n\\catcode65=" + category + " ", 70002);
            Check.failsIn(1, "%\n\\global\\catcode65 " + category + " ", 70002);
        }
        Check.counts("\\count65=16 \\count66=-1 %", 65, 16);
    }

    /** "` (category 12): a token is got: a character, an active character, or a name of one character (marked or not)". */
    private static void charactersOfNumbers() {
        Check.counts("\\count1=`\u00ff%", 1, 255);
        Check.counts("\\count1=`\\\u00ff%", 1, 255);
        Check.counts("\\count1=`\\\0%", 1, 0);
        Check.counts("\\catcode0=12 \\count1=`\0%", 1, 0);
        Check.counts("\\catcode255=13 \\count1=`\u00ff%", 1, 255);
        Check.counts("\\count1=`\\\n", 1, 13);
        Check.counts("\\def~{x}\\count1=\\expandafter`\\noexpand~%", 1, 126);
        Check.failsIn(3, "\\count1=\\expandafter`\\csname\\endcsname%", 60001);
        Check.failsIn(1, "%\n\\count1=`\\ab%", 60002);
        Check.failsIn(3, "\\count1=\\expandafter`\\csname aa\\endcsname%", 60001);
        Check.counts("\\count1=\\expandafter`\\csname a\\endcsname%", 1, 97);
    }

    /** "nothing for 0 or less; above 9999 FAULT 7", "as many m as there are thousands". */
    private static void romanNumerals() {
        String[] none = {"0", "-0", "-1", "-9999", "-10000", "-2147483647"};
        for (String number : none) {
            Check.printsIn(1, "\\romannumeral" + number + " %", "");
        }
        String[] more = {"10000", "10001", "99999", "2147483647"};
        for (String number : more) {
            Check.failsIn(1, "%\n\\romannumeral" + number + " ", 70002);
        }
        for (int number = 1; number <= 9999; number = number < 1100 ? number + 1 : number + 97) {
            Check.prints("\\romannumeral" + number + " %", roman(number));
        }
        Check.prints("\\romannumeral9998 %", "mmmmmmmmmcmxcviii");
        Check.prints("\\romannumeral9999 %", "mmmmmmmmmcmxcix");
        Check.prints("\\romannumeral8888 %", "mmmmmmmmdccclxxxviii");
    }

    private static String roman(int number) {
        int[] values = {1000, 900, 500, 400, 100, 90, 50, 40, 10, 9, 5, 4, 1};
        String[] letters = {"m", "cm", "d", "cd", "c", "xc", "l", "xl", "x", "ix", "v", "iv", "i"};
        StringBuilder text = new StringBuilder();
        int left = number;
        for (int i = 0; i < values.length; i++) {
            text.append(letters[i].repeat(left / values[i]));
            left %= values[i];
        }
        return text.toString();
    }

    /** "the n-th of the cases that or divides, from 0; what is behind else if there is none." */
    private static void cases() {
        String[] numbers = {"-2147483647", "-1", "0", "1", "2", "3", "4", "2147483647"};
        String[] withElse = {"d", "d", "a", "b", "c", "d", "d", "d"};
        for (int i = 0; i < numbers.length; i++) {
            String chosen = withElse[i];
            Check.prints("\\ifcase" + numbers[i] + " a\\or b\\or c\\else d\\fi;%", chosen + ";");
            Check.prints("\\ifcase" + numbers[i] + " a\\or b\\or c\\fi;%", chosen.equals("d") ? ";" : chosen + ";");
            Check.prints("\\ifcase" + numbers[i] + " a\\else d\\fi;%", chosen.equals("a") ? "a;" : "d;");
            Check.prints("\\ifcase" + numbers[i] + " a\\fi;%", chosen.equals("a") ? "a;" : ";");
            Check.prints("\\ifcase" + numbers[i] + " \\or\\or\\else\\fi;%", ";");
            Check.prints("\\ifcase" + numbers[i] + " \\fi;%", ";");
        }
        Check.failsIn(2, "\\ifcase3 \\or\\or\\else\\or\\fi", 80001);
        Check.failsIn(2, "\\ifcase-1 \\or\\or\\else\\else\\fi", 80001);
        Check.failsIn(2, "\\ifcase0 \\or\\or\\else\\or\\fi%", 0);
    }

    private static void comparisons() {
        compares("2147483647", "-2147483647", 1);
        compares("2147483647", "2147483647", 0);
        compares("-2147483647", "-2147483647", 0);
        compares("2147483647", "2147483646", 1);
        compares("-2147483647", "-2147483646", -1);
        compares("-1", "0", -1);
        compares("0", "-0", 0);
        compares("0", "1", -1);
        Check.prints("\\ifodd2147483647 a\\fi\\ifodd-2147483647 b\\fi\\ifodd2147483646 c\\fi\\ifodd-2147483646 d\\fi\\ifodd0 e\\fi"
                + "\\ifodd-1 f\\fi\\ifodd-0 g\\fi%", "abf");
    }

    private static void compares(String a, String b, int order) {
        String[] relations = {"<", "=", ">"};
        for (int i = 0; i < 3; i++) {
            Check.prints("\\ifnum" + a + relations[i] + b + " y\\else n\\fi%", order == i - 1 ? "y" : "n");
            Check.prints("\\ifnum" + b + relations[i] + a + " y\\else n\\fi%", -order == i - 1 ? "y" : "n");
        }
    }
}
