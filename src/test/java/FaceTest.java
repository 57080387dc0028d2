/** Promises 1 to 7: each call of the face with ordinary, outermost and wrong inputs. */
public final class FaceTest {
    public static void main(String[] args) {
        newObject();
        typing();
        typingLimit();
        running();
        countingTicks();
        readingOut();
        readingCounters();
        Check.end();
    }

    private static void newObject() {
        MacroPress press = new MacroPress();
        Check.due("new: size", press.size(), 0);
        Check.due("new: ticks", press.ticks(), 0);
        Check.due("new: count 0", press.count(0), 0);
        Check.due("new: count 255", press.count(255), 0);
        Check.due("new: out 0", outThrows(press, 0), 1);
        Check.due("new: run", press.run(0), 0);
    }

    private static void typing() {
        MacroPress press = new MacroPress();
        int[] none = {Integer.MIN_VALUE, -1, 0, 9, Integer.MAX_VALUE};
        for (int n : none) {
            Check.due("type n " + n, press.type('x', n) ? 1 : 0, 0);
        }
        Check.due("type 1", press.type(0x4241, 1) ? 1 : 0, 1);
        Check.due("type 2", press.type(0x4342, 2) ? 1 : 0, 1);
        Check.due("type 8", press.type(0xff30313233343536L, 8) ? 1 : 0, 1);
        Check.due("typed", press.run(99), 0);
        Check.due("typed", Check.out(press), "ABC6543210\u00ff ");
        Check.due("the text is empty behind a run", press.run(99), 0);
        Check.due("the text is empty behind a run", press.size(), 0);
    }

    private static void typingLimit() {
        MacroPress press = new MacroPress();
        Check.type(press, Check.times(3997, "a"));
        Check.due("4001 bytes", press.type('b', 4) ? 1 : 0, 0);
        Check.due("4000 bytes", press.type(0x626262, 3) ? 1 : 0, 1);
        Check.due("4001 bytes", press.type('b', 1) ? 1 : 0, 0);
        Check.due("run of 4000", press.run(30000), 0);
        Check.due("size of 4000", press.size(), 4001);
        Check.due("byte 3996", press.out(3996), 'a');
        Check.due("byte 3997", press.out(3997), 'b');
        Check.due("byte 3999", press.out(3999), 'b');
        Check.due("byte 4000", press.out(4000), ' ');
        Check.due("room again behind the run", press.type('b', 8) ? 1 : 0, 1);
    }

    private static void running() {
        MacroPress press = new MacroPress();
        Check.type(press, "\\count7=5 ab");
        int[] wrong = {Integer.MIN_VALUE, -1, 30001, Integer.MAX_VALUE};
        for (int ticks : wrong) {
            Check.due("run " + ticks, runThrows(press, ticks), 1);
        }
        Check.due("ticks behind a run that throws", press.ticks(), 0);
        Check.due("run 30000", press.run(30000), 0);
        Check.due("out", Check.out(press), "ab ");
        Check.due("run -1", runThrows(press, -1), 1);
        Check.due("out behind a run that throws", Check.out(press), "ab ");
        Check.due("count behind a run that throws", press.count(7), 5);
        Check.due("ticks behind a run that throws", press.ticks(), 4);
        Check.type(press, "\\the\\count7 \\x");
        Check.due("a run begins anew", press.run(30000), 110001);
        Check.due("a run begins anew", Check.out(press), "0");
        Check.due("a fault empties the text", press.run(30000), 0);
        Check.due("a run empties OUT", press.size(), 0);
    }

    private static void countingTicks() {
        MacroPress press = new MacroPress();
        Check.type(press, "abc%");
        Check.due("run 2", press.run(2), 100001);
        Check.due("ticks with the one too many", press.ticks(), 3);
        Check.due("out up to the fault", Check.out(press), "ab");
        Check.type(press, "abc%");
        Check.due("run 3", press.run(3), 0);
        Check.due("ticks", press.ticks(), 3);
        Check.due("empty run", press.run(3), 0);
        Check.due("ticks of an empty run", press.ticks(), 0);
    }

    private static void readingOut() {
        MacroPress press = new MacroPress();
        Check.type(press, "xy%");
        Check.due("run", press.run(9), 0);
        Check.due("size", press.size(), 2);
        Check.due("out 0", press.out(0), 'x');
        Check.due("out 1", press.out(1), 'y');
        int[] none = {Integer.MIN_VALUE, -1, 2, 8000, Integer.MAX_VALUE};
        for (int i : none) {
            Check.due("out " + i, outThrows(press, i), 1);
        }
    }

    private static void readingCounters() {
        MacroPress press = new MacroPress();
        Check.type(press, "\\count0=7\\count255=-8{\\count1=9\\global\\count2=3\\count2=4}");
        Check.due("run", press.run(99), 0);
        Check.due("count 0", press.count(0), 7);
        Check.due("count 255", press.count(255), -8);
        Check.due("count 1 is set in a group alone", press.count(1), 0);
        Check.due("count 2 is set globally", press.count(2), 3);
        int[] none = {Integer.MIN_VALUE, -1, 256, Integer.MAX_VALUE};
        for (int k : none) {
            Check.due("count " + k, countThrows(press, k), 1);
        }
        Check.type(press, "\\count3=1{\\count3=2\\begingroup\\count3=4\\global\\count4=6 \\count4=5\\x");
        Check.due("a fault within groups", press.run(99), 110001);
        Check.due("count 3 outside of them", press.count(3), 1);
        Check.due("count 4 outside of them", press.count(4), 6);
        Check.due("count 0 of the new run", press.count(0), 0);
    }

    private static int runThrows(MacroPress press, int ticks) {
        try {
            press.run(ticks);
            return 0;
        } catch (IllegalArgumentException e) {
            return 1;
        }
    }

    private static int outThrows(MacroPress press, int i) {
        try {
            press.out(i);
            return 0;
        } catch (IndexOutOfBoundsException e) {
            return 1;
        }
    }

    private static int countThrows(MacroPress press, int k) {
        try {
            press.count(k);
            return 0;
        } catch (IndexOutOfBoundsException e) {
            return 1;
        }
    }
}
