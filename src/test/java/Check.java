import java.nio.charset.StandardCharsets;

/** What the tests share: typing a text, and comparing what a run answers with what is due. */
final class Check {
    private static int wrong = 0;

    private Check() {
    }

    static void due(String what, long got, long want) {
        if (got != want) {
            wrong++;
            System.out.println(what + ": answered " + got + ", due is " + want);
        }
    }

    static void due(String what, String got, String want) {
        if (!got.equals(want)) {
            wrong++;
            System.out.println(what + ": answered [" + got + "], due is [" + want + "]");
        }
    }

    /** Types a text, a byte for each of its characters. */
    static void type(MacroPress press, String text) {
        byte[] bytes = text.getBytes(StandardCharsets.ISO_8859_1);
        for (int i = 0; i < bytes.length; i += 8) {
            int n = Math.min(8, bytes.length - i);
            long w = 0;
            for (int j = 0; j < n; j++) {
                w |= (bytes[i + j] & 255L) << (8 * j);
            }
            due("typing", press.type(w, n) ? 1 : 0, 1);
        }
    }

    static String out(MacroPress press) {
        StringBuilder text = new StringBuilder();
        for (int i = 0; i < press.size(); i++) {
            text.append((char) press.out(i));
        }
        return text.toString();
    }

    /** A text that runs without a fault; its last line's end counts, as it does in every text. */
    static void prints(String text, String out) {
        fails(text, 0, out);
    }

    /** As prints, and with that many ticks. */
    static void printsIn(int ticks, String text, String out) {
        due(text + " ticks", fails(text, 0, out).ticks(), ticks);
    }

    /** A text whose run answers that, with what came out before. */
    static MacroPress fails(String text, int answer, String out) {
        return failsWithin(30000, text, answer, out);
    }

    static MacroPress failsWithin(int ticks, String text, int answer, String out) {
        MacroPress press = new MacroPress();
        type(press, text);
        due(text, press.run(ticks), answer);
        due(text, out(press), out);
        return press;
    }

    /** A text whose run answers that, with so many ticks. */
    static void failsIn(int ticks, String text, int answer) {
        MacroPress press = new MacroPress();
        type(press, text);
        due(text, press.run(30000), answer);
        due(text + " ticks", press.ticks(), ticks);
    }

    static String times(int n, String text) {
        return text.repeat(n);
    }

    static void end() {
        if (wrong != 0) {
            System.out.println(wrong + " answers are not as due");
            System.exit(1);
        }
        System.out.println("all answers are as due");
    }
}
