/**
 * Promises 2 to 7 together: an object that has had many runs answers to each text as a new one does, and no text
 * makes it throw. The texts are pieced together by a fixed rule, so every run of this test is the same.
 */
public final class ReuseTest {
    private static final String[] PIECES = {"\\expandafter", "\\noexpand", "\\csname ", "\\string", "\\number",
        "\\romannumeral", "\\the", "\\if", "\\ifcat", "\\ifx", "\\ifnum", "\\ifodd", "\\iftrue", "\\iffalse", "\\ifcase",
        "\\else ", "\\or ", "\\fi ", "\\relax ", "\\par ", "\\begingroup ", "\\endgroup ", "\\endcsname ", "\\end ", "\\def",
        "\\edef", "\\gdef", "\\xdef", "\\let", "\\chardef", "\\count", "\\catcode", "\\advance", "\\multiply", "\\divide",
        "\\global", "\\a", "\\a ", "\\b ", "\\b{", "~", "{", "}", "#1", "#2", "##", "=", "<", "by", "-", "`", "1", "2 ", "13 ",
        "255 ", "a", "b", "y", " ", "\n", "\n\n", "%\n", "\t", "\0", "\u00ff", "{\\a}", "{#1}", "\\def\\a#1{(#1)}",
        "\\def\\b#1,{[#1]}", "\\def~{\\a~}", "\\count1=", "\\fi", "\\catcode`a=13 ", "$", "^", "\\ "};
    private static int seed = 1;

    public static void main(String[] args) {
        for (int i = 0; i < 1200; i++) {
            Press used = new Press();
            for (int runs = next(6); runs >= 0; runs--) {
                Check.type(used, text(1 + next(40)));
                used.run(someTicks());
            }
            compare(used, new Press(), text(1 + next(40)), someTicks());
        }
        Check.end();
    }

    private static void compare(Press used, Press fresh, String text, int ticks) {
        Check.type(used, text);
        Check.type(fresh, text);
        Check.due(text, used.run(ticks), fresh.run(ticks));
        Check.due(text, used.ticks(), fresh.ticks());
        for (int k = 0; k < 3; k++) {
            Check.due(text, used.count(k), fresh.count(k));
        }
        int size = fresh.size();
        Check.due(text, used.size(), size);
        for (int i = 0; i < size && used.callsLeft() > 0 && fresh.callsLeft() > 0; i++) {
            Check.due(text, used.out(i), fresh.out(i));
        }
    }

    private static int someTicks() {
        return next(4) == 0 ? 30000 : next(300);
    }

    private static String text(int pieces) {
        StringBuilder text = new StringBuilder();
        for (int i = 0; i < pieces; i++) {
            text.append(PIECES[next(PIECES.length)]);
        }
        return text.toString();
    }

    private static int next(int bound) {
        seed = seed * 1103515245 + 12345;
        return (seed >>> 16) % bound;
    }
}
