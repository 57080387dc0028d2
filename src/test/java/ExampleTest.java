/** README.md: its examples answer what it says they do. */
public final class ExampleTest {
    public static void main(String[] args) {
        firstExample();
        faults();
        Check.end();
    }

    private static void firstExample() {
        MacroPress press = new MacroPress();
        type(press, "\\def\\greet#1.{Hello, #1!}%\n\\greet world.\\count1=42 %");
        Check.due("the example's run", press.run(1000), 0);
        StringBuilder out = new StringBuilder();
        for (int i = 0; i < press.size(); i++) {
            out.append((char) press.out(i));
        }
        Check.holds("the example prints " + out, out.toString().equals("Hello, world!"));
        Check.due("the example's counter", press.count(1), 42);
        Check.due("the example's ticks", press.ticks(), 16);
    }

    /** As it stands in README.md. */
    private static void type(MacroPress press, String text) {
        for (int i = 0; i < text.length(); i += 8) {
            int n = Math.min(8, text.length() - i);
            long w = 0;
            for (int j = 0; j < n; j++) {
                w |= (long) text.charAt(i + j) << (8 * j);
            }
            if (!press.type(w, n)) {
                throw new IllegalArgumentException("the text has more than 4000 bytes");
            }
        }
    }

    private static void faults() {
        Check.fails("a", 0, "a ");
        Check.fails("a\n\\b", 110002, "a ");
        Check.fails("a\n\\b\nc", 110002, "a ");
        Check.due("README's run without a text", new Press().run(0), 0);
    }
}
