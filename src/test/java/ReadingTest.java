/** Promise 3, how the text is read: lines, categories, states, names. */
public final class ReadingTest {
    public static void main(String[] args) {
        lines();
        firstCategories();
        states();
        names();
        lineEndOfOtherCategories();
        changingCategories();
        activeCharacters();
        Check.end();
    }

    private static void lines() {
        Check.prints("", "");
        Check.prints("a", "a ");
        Check.prints("a\n", "a ");
        Check.prints("\n", "\n");
        Check.prints("a\n\n", "a \n");
        Check.prints("a\n\n\nb", "a \n\nb ");
        Check.prints("   ", "\n");
        Check.prints("a\n ", "a \n");
        Check.prints("a   \n  b", "a b ");
        Check.prints("a%", "a");
        Check.prints("a%b\nc", "ac ");
        Check.prints("%\n\na", "\na ");
        Check.prints("a\rb\nc", "a c ");
        Check.fails("a\n\n\\x", 110003, "a \n");
        Check.fails("a\n\n\\x\n\n", 110003, "a \n");
        Check.fails("{\n\n\n", 90003, " \n\n");
        Check.fails("a\\end\n}", 0, "a");
    }

    private static void firstCategories() {
        for (int c = 0; c < 256; c++) {
            Check.prints("\\the\\catcode" + c + " %", Integer.toString(firstCategory(c)));
        }
    }

    private static int firstCategory(int c) {
        if (c >= 'a' && c <= 'z' || c >= 'A' && c <= 'Z') {
            return 11;
        }
        int[] others = {'\\', 0, '{', 1, '}', 2, '$', 3, '&', 4, 13, 5, '#', 6, '^', 7, '_', 8, 0, 9, ' ', 10, 9, 10,
            '~', 13, '%', 14, 127, 15};
        for (int i = 0; i < others.length; i += 2) {
            if (others[i] == c) {
                return others[i + 1];
            }
        }
        return 12;
    }

    private static void states() {
        Check.prints("  a", "a ");
        Check.prints("a  b", "a b ");
        Check.prints("a\tb\t", "a b ");
        Check.prints(" \t\0 \n", "\n");
        Check.prints("a\0 \0 b\0", "a b ");
        Check.prints("a \0", "a ");
        Check.prints("$&^_\u00e9@", "$&^_\u00e9@ ");
        Check.prints("\\relax  a", "a ");
        Check.prints("\\relax\n\n", "\n");
        Check.prints("\\def\\ {s}\\   a", "sa ");
        Check.prints("\\def\\1{s}\\1  a", "s a ");
        Check.fails("a\n b\u007f", 10002, "a b");
        Check.fails("\\iffalse \u007f", 10001, "");
        Check.prints("a%\u007f", "a");
    }

    private static void names() {
        Check.prints("\\def\\ab{1}\\def\\a{2}\\def\\A{3}\\ab\\a b\\A", "12b3");
        Check.prints("\\def\\\n{r}\\\nx", "rx ");
        Check.prints("\\def\\{{o}\\{x", "ox ");
        Check.prints("\\catcode`\\@=11 \\def\\a@b{in}\\a@b\\catcode`\\@=12 \\def\\a#1{(#1)}\\a@b", "in(@)b ");
        Check.fails("\\" + Check.times(40, "n"), 110001, "");
        Check.fails("\\" + Check.times(41, "n"), 20001, "");
        Check.fails("\\iffalse\n\\" + Check.times(90, "n"), 20002, "");
    }

    private static void lineEndOfOtherCategories() {
        Check.prints("\\catcode13=0\n\\expandafter\\def\\csname\\endcsname{E}", "E");
        Check.prints("\\catcode13=0\n\\catcode`a=11 \\def\\E{e}%\n\\E%", "e");
        Check.prints("\\catcode13=9\na\nb", "ab");
        Check.prints("\\catcode13=10\na\n\nb", "a b ");
        Check.prints("\\catcode13=12\na\n\nb", "a\r\rb\r");
        Check.prints("\\catcode13=13\n\\def\r{;}a\nb\n", "a;b;");
        Check.prints("\\catcode13=11\n\\def\\a\r{;}\\a\nb\n", ";b\r");
        Check.fails("\\catcode13=15\na\nb", 10002, "a");
        Check.fails("\\catcode13=1\na\nb", 90003, "ab");
    }

    private static void changingCategories() {
        Check.prints("\\catcode`|=0 |def|a{x}|a\\a", "xx");
        Check.prints("\\catcode`[=1 \\catcode`]=2 [\\count1=5]\\the\\count1%", "0");
        Check.prints("\\catcode`\\%=12 5%", "5% ");
        Check.prints("\\catcode`!=14 a!b\nc", "ac ");
        Check.prints("\\catcode`z=9 zb\\catcode122=11 zb", "bzb ");
        Check.prints("\\catcode`x=10 axxb", "a b ");
        Check.prints("\\catcode32=12 a  b", "a  b ");
        Check.prints("\\def\\a{@}\\catcode`@=13 \\def@{x}\\a @", "@x ");
        Check.prints("{\\catcode`*=13 \\def*{s}**}*", "ss* ");
        Check.fails("{\\catcode`*=15 }*{\\catcode`*=15 *}", 10001, "*");
    }

    private static void activeCharacters() {
        Check.fails("~", 110001, "");
        Check.prints("\\def~{t}~  ~", "t t ");
        Check.prints("\\def~#1~{#1#1}~ab~", "abab ");
        Check.prints("\\let~=a~\\string~\\number`~%", "a~126");
        Check.prints("\\catcode0=13 \\catcode1=13 \\catcode254=13 \\catcode255=13 \\let\0=a\\let\1=b\\let\u00fe=c\\let\u00ff=d"
                + "\0\1\u00fe\u00ff\\expandafter\\relax\\noexpand\0\\the\\catcode255 \\the\\catcode0 \\the\\count255 %", "abcda13130");
        Check.fails("\\catcode255=13 \\let\u00ff=\\relax\\expandafter\u00ff\u00ff\\catcode0=13 \\def\0{x}\0\\expandafter\0\0%", 0, "xxx");
    }
}
