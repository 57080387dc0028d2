/** "An object is used for at most 512 calls after it has been made": all of these are answered, the last one too. */
public final class CallsTest {
    private static final int CALLS = 512;

    public static void main(String[] args) {
        mostlyTyping();
        mostlyRefused();
        mostlyRuns();
        mostlyReading();
        Check.end();
    }

    private static void mostlyTyping() {
        Press press = new Press();
        for (int i = 0; i < CALLS - 2; i++) {
            Check.holds("a call of type, " + i, press.type(i < CALLS - 3 ? 'a' : '%', 1));
        }
        Check.due("run behind typing", press.run(30000), 0);
        Check.due("size in the last call", press.size(), CALLS - 3);
        Check.due("calls left", press.callsLeft(), 0);
    }

    private static void mostlyRefused() {
        Press press = new Press();
        Check.holds("typing", press.type("a%"));
        for (int i = 0; i < 127; i++) {
            Check.holds("type refuses", !press.type('x', 0));
            Check.holds("run refuses", press.refusesRun(30001));
            Check.holds("out refuses", press.refusesOut(0));
            Check.holds("count refuses", press.refusesCount(256));
        }
        Check.due("run behind refused calls", press.run(1), 0);
        Check.due("its OUT", press.out(0), 'a');
        Check.due("its ticks in the last call", press.ticks(), 1);
        Check.due("calls left", press.callsLeft(), 0);
    }

    /** A text with a fault and one without, by turns. */
    private static void mostlyRuns() {
        Press press = new Press();
        for (int i = 0; i < CALLS / 4; i++) {
            Check.holds("typing a fault", press.type("{\\x"));
            Check.due("a fault, " + i, press.run(9), 110001);
            Check.holds("typing", press.type("a"));
            Check.due("no fault, " + i, press.run(2), 0);
        }
        Check.due("calls left", press.callsLeft(), 0);
    }

    private static void mostlyReading() {
        Press press = new Press();
        Check.holds("typing", press.type("\\count1=7ab%"));
        Check.due("run", press.run(3), 0);
        for (int i = 0; i < 101; i++) {
            Check.due("size, " + i, press.size(), 2);
            Check.due("ticks, " + i, press.ticks(), 3);
            Check.due("out, " + i, press.out(1), 'b');
            Check.due("count, " + i, press.count(1), 7);
            Check.due("another count, " + i, press.count(255), 0);
        }
        Check.due("a run without a text", press.run(0), 0);
        Check.due("its size", press.size(), 0);
        Check.due("its ticks", press.ticks(), 0);
        Check.due("its count in the last call", press.count(1), 0);
        Check.due("calls left", press.callsLeft(), 0);
    }
}
