/** What the tests share: comparing what a run answers with what is due. */
final class Check {
    /** Calls that are left to a test behind the comparing of OUT. */
    private static final int CALLS_KEPT = 5;

    private static int wrong = 0;

    private Check() {
    }

    static void due(String what, long got, long want) {
        if (got != want) {
            wrong++;
            System.out.println(brief(what) + ": answered " + got + ", due is " + want);
        }
    }

    private static String brief(String what) {
        int length = what.length();
        return length <= 200 ? what : what.substring(0, 100) + " .. " + what.substring(length - 90);
    }

    static void holds(String what, boolean isSo) {
        due(what, isSo ? 1 : 0, 1);
    }

    static void type(Press press, String text) {
        holds("typing " + text, press.type(text));
    }

    /** Compares OUT; of one that is too long for an object's calls some bytes, the first and the last among them. */
    static void out(String what, Press press, String want) {
        int size = press.size();
        due(what + " size", size, want.length());
        int bytes = Math.min(size, want.length());
        int looks = Math.min(bytes, Math.max(press.callsLeft() - CALLS_KEPT, 0));
        for (int i = 0; i < looks; i++) {
            int at = looks == 1 ? 0 : (int) ((long) i * (bytes - 1) / (looks - 1));
            due(what + " byte " + at, press.out(at), want.charAt(at));
        }
    }

    /** A text that runs without a fault; its last line's end counts, as it does in every text. */
    static void prints(String text, String out) {
        fails(text, 0, out);
    }

    /** As prints, and with that many ticks. */
    static void printsIn(int ticks, String text, String out) {
        due(text + " ticks", fails(text, 0, out).ticks(), ticks);
    }

    /** A text whose run answers that, with what came out before. */
    static Press fails(String text, int answer, String out) {
        return failsWithin(30000, text, answer, out);
    }

    static Press failsWithin(int ticks, String text, int answer, String out) {
        Press press = new Press();
        type(press, text);
        due(text, press.run(ticks), answer);
        out(text, press, out);
        return press;
    }

    /** A text whose run answers that, with so many ticks. */
    static Press failsIn(int ticks, String text, int answer) {
        Press press = new Press();
        type(press, text);
        due(text, press.run(30000), answer);
        due(text + " ticks", press.ticks(), ticks);
        return press;
    }

    /** A text without a fault that needs so many ticks: they are enough, and one less is not. */
    static void needs(int ticks, String text) {
        Press press = new Press();
        type(press, text);
        due(text + " with enough ticks", press.run(ticks), 0);
        due(text + " ticks", press.ticks(), ticks);
        press = new Press();
        type(press, text);
        due(text + " with a tick too few", press.run(ticks - 1) / 10000, 10);
        due(text + " ticks with the one too many", press.ticks(), ticks);
    }

    /** A text without a fault behind which counter k has that value. */
    static void counts(String text, int k, long value) {
        Press press = new Press();
        type(press, text);
        due(text, press.run(30000), 0);
        due(text + " counter " + k, press.count(k), value);
    }

    static String times(int n, String text) {
        return text.repeat(n);
    }

    static void end() {
        if (wrong != 0) {
            System.out.println(wrong + " answers are not as due");
            System.exit(1);
        }
        System.out.println("all answers are as due");
    }
}
