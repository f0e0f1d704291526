/** Promise 22, and which calls record. */
public final class UndoTest {
    private static final int STATE = RetryStorm.STATE;
    private static final Check check = new Check("UndoTest");

    public static void main(String[] args) {
        eachChange();
        atMostFour();
        whatRecords();
        everythingComesBack();
        drawsComeBack();
        switchesAndServersComeBack();
        longestComesBack();
        check.end();
    }

    private static RetryStorm busy() {
        RetryStorm x = new RetryStorm();
        x.setServer(0, 3);
        x.setServer(1, 5);
        for (int client = 0; client < 3; client++) {
            x.set(client, 0, client + 2);
            x.set(client, 4, 5);
            x.set(client, 7, client + 1);
            x.set(client, 8, 3);
            x.set(client, 9, client);
        }
        x.run(40);
        return x;
    }

    private static void eachChange() {
        check.part("each change");
        RetryStorm x = busy();
        // Four are remembered already, so one less after an undo is three.
        for (int kind = 0; kind < 6; kind++) {
            long before = hashWithoutRecords(x);
            switch (kind) {
                case 0: x.set(0, 10, 3); break;
                case 1: x.setServer(3, 16); break;
                case 2: x.setDiscipline(2); break;
                case 3: x.setSwitch(1, true); break;
                case 4: x.surge(1, 4, 3, 9); break;
                default: x.run(7);
            }
            check.due("undo() of kind " + kind, x.undo(), 3);
            check.due("all of it", hashWithoutRecords(x), before);
            x.setDiscipline(0);
        }
    }

    private static long hashWithoutRecords(RetryStorm x) {
        long h = 7;
        for (int i = 0; i < 12; i++) {
            h = 31 * h + x.told(i);
        }
        for (int c = 0; c < 6; c++) {
            for (int i = 0; i < 12; i++) {
                h = 31 * h + x.property(c, i);
                h = 31 * h + x.count(c, i);
            }
            h = 31 * h + x.recovery(c, 3);
        }
        for (int i = 0; i < 16; i++) {
            h = 31 * h + x.live(i);
            h = 31 * h + x.queued(false, i);
            h = 31 * h + x.queued(true, i);
            for (int what = 0; what < 5; what++) {
                h = 31 * h + x.request(x.live(i), what);
            }
        }
        for (int what = 0; what < 4; what++) {
            h = 31 * h + x.window(what, 30);
        }
        return h;
    }

    private static void atMostFour() {
        check.part("at most 4");
        RetryStorm x = new RetryStorm();
        check.due("undo() on a new object", x.undo(), STATE);
        for (int i = 1; i <= 7; i++) {
            x.set(0, 1, i);
            check.due("told(12)", x.told(12), Math.min(4, i));
        }
        for (int i = 3; i >= 0; i--) {
            check.due("undo()", x.undo(), i);
            check.due("the phase", x.property(0, 1), i + 3);
            check.due("told(12)", x.told(12), i);
        }
        check.due("undo()", x.undo(), STATE);
        check.due("the phase", x.property(0, 1), 3);
        x.set(0, 1, 9);
        x.run(3);
        check.due("undo()", x.undo(), 1);
        check.due("told(0)", x.told(0), 0);
        check.due("undo()", x.undo(), 0);
        check.due("the phase", x.property(0, 1), 3);
    }

    private static void whatRecords() {
        check.part("what records");
        RetryStorm x = new RetryStorm();
        x.set(0, 0, 0);
        check.due("a set that changes nothing", x.told(12), 1);
        x.setServer(0, 2);
        check.due("a setServer that changes nothing", x.told(12), 2);
        x.setSwitch(2, false);
        check.due("a setSwitch that changes nothing", x.told(12), 3);
        x.undo();
        x.undo();
        x.setDiscipline(0);
        check.due("a setDiscipline that changes nothing", x.told(12), 2);
        x.ifRun(3, 1);
        x.bestDiscipline(3);
        x.digest();
        check.due("asking does not", x.told(12), 2);
        x.set(0, 0, 51);
        x.setServer(0, 5);
        x.setDiscipline(4);
        x.setSwitch(3, true);
        x.surge(0, 0, 0, 1);
        x.run(0);
        check.due("a refused call does not", x.told(12), 2);
        x.surge(0, 1, 0, 1);
        check.due("a surge does", x.told(12), 3);
        x.run(1);
        check.due("a run does", x.told(12), 4);
    }

    private static void everythingComesBack() {
        check.part("everything comes back");
        RetryStorm x = busy();
        RetryStorm y = busy();
        x.surge(2, 4, 0, 5);
        x.run(60);
        x.run(60);
        x.undo();
        x.undo();
        x.undo();
        x.run(25);
        y.run(25);
        check.due("what comes later", hashWithoutRecords(x), hashWithoutRecords(y));
    }

    private static void switchesAndServersComeBack() {
        check.part("switches and servers come back");
        RetryStorm x = new RetryStorm();
        for (int which = 0; which < 3; which++) {
            x.setSwitch(which, true);
            check.due("undo()", x.undo(), 0);
            check.due("setSwitch(" + which + ", false)", x.setSwitch(which, false), 0);
            x.undo();
        }
        int[] first = {2, 8, 1, 4};
        for (int what = 0; what < 4; what++) {
            x.setServer(what, 3);
            x.undo();
            check.due("setServer(" + what + ", 2)", x.setServer(what, 2), first[what]);
            x.undo();
        }
    }

    private static void longestComesBack() {
        check.part("the greatest length comes back");
        RetryStorm x = new RetryStorm();
        x.set(0, 0, 1);
        x.set(0, 8, 12);
        x.run(4);
        x.run(5);
        check.due("told(10)", x.told(10), 7);
        x.undo();
        check.due("told(10)", x.told(10), 2);
    }

    private static void drawsComeBack() {
        check.part("the numbers drawn come back");
        RetryStorm x = busy();
        x.run(17);
        long once = x.digest();
        x.undo();
        x.run(17);
        check.due("the same run again", x.digest(), once);
    }
}
