/**
 * Promises 2 to 7 together: an object that has had many runs answers to each text as a new one does, and no text
 * makes it throw. The texts are pieced together by a fixed rule, so every run of this test is the same.
 */
public final class ReuseTest {
    private static final String[] PIECES = {"\\expandafter", "\\noexpand", "\\csname ", "\\string", "\\number",
        "\\romannumeral", "\\the", "\\if", "\\ifcat", "\\ifx", "\\ifnum", "\\ifodd", "\\iftrue", "\\iffalse", "\\ifcase",
        "\\else ", "\\or ", "\\fi ", "\\relax ", "\\par ", "\\begingroup ", "\\endgroup ", "\\endcsname ", "\\end ", "\\def",
        "\\edef", "\\gdef", "\\xdef", "\\let", "\\chardef", "\\count", "\\catcode", "\\advance", "\\multiply", "\\divide",
        "\\global", "\\a", "\\a ", "\\b ", "\\b{", "~", "{", "}", "#1", "#2", "##", "=", "<", "by", "-", "`", "1", "2 ", "13 ",
        "255 ", "a", "b", "y", " ", "\n", "\n\n", "%\n", "\t", "\0", "\u00ff", "{\\a}", "{#1}", "\\def\\a#1{(#1)}",
        "\\def\\b#1,{[#1]}", "\\def~{\\a~}", "\\count1=", "\\fi", "\\catcode`a=13 ", "$", "^", "\\ "};
    private static int seed = 1;

    public static void main(String[] args) {
        MacroPress used = new MacroPress();
        for (int i = 0; i < 4000; i++) {
            String text = text(1 + next(40));
            int ticks = next(4) == 0 ? 30000 : next(300);
            MacroPress fresh = new MacroPress();
            Check.type(used, text);
            Check.type(fresh, text);
            Check.due(text, used.run(ticks), fresh.run(ticks));
            Check.due(text, used.ticks(), fresh.ticks());
            Check.due(text, Check.out(used), Check.out(fresh));
            for (int k = 0; k < 256; k++) {
                Check.due(text, used.count(k), fresh.count(k));
            }
        }
        Check.end();
    }

    private static String text(int pieces) {
        StringBuilder text = new StringBuilder();
        for (int i = 0; i < pieces; i++) {
            text.append(PIECES[next(PIECES.length)]);
        }
        return text.toString();
    }

    private static int next(int bound) {
        seed = seed * 1103515245 + 12345;
        return (seed >>> 16) % bound;
    }
}
