/** Promises 1 to 7: a new object, and what can be set. */
public final class ConfigurationTest {
    private static final int BAD = RetryStorm.BAD, STATE = RetryStorm.STATE, NONE = RetryStorm.NONE;
    private static final int[] LOW = {0, 0, 1, 1, 1, 1, 1, 0, 1, 0, 0, 0};
    private static final int[] HIGH = {50, 50, 60, 6, 40, 16, 64, 3, 12, 12, 20, 10};
    private static final int[] FIRST = {0, 0, 20, 3, 10, 2, 16, 0, 2, 0, 20, 10};
    private static final int[] OUTSIDE = {Integer.MIN_VALUE, -9, -8, -2, -1, 65, 100, Integer.MAX_VALUE};
    private static final Check check = new Check("ConfigurationTest");

    public static void main(String[] args) {
        constants();
        newObject();
        setInRange();
        setOutOfRange();
        setOfUnitsAndDeadlines();
        propertyOutOfRange();
        setServer();
        setServerInUse();
        setBackServerInUse();
        setDiscipline();
        setSwitch();
        surge();
        surgeOutOfRange();
        check.end();
    }

    private static void constants() {
        check.part("the constants");
        check.due("BAD", BAD, -1);
        check.due("STATE", STATE, -2);
        check.due("NONE", NONE, -9);
    }

    private static void newObject() {
        check.part("promise 1");
        RetryStorm x = new RetryStorm();
        for (int what = 0; what <= 12; what++) {
            check.due("told(" + what + ")", x.told(what), 0);
        }
        for (int client = 0; client < 6; client++) {
            for (int what = 0; what < 12; what++) {
                check.due("property(" + client + ", " + what + ")", x.property(client, what), FIRST[what]);
            }
            for (int what = 0; what < 7; what++) {
                check.due("count(" + client + ", " + what + ")", x.count(client, what), 0);
            }
            check.due("count(" + client + ", 7)", x.count(client, 7), 200);
            check.due("succeededAt(" + client + ", 1)", x.succeededAt(client, 1), 0);
            check.due("recovery(" + client + ", 16)", x.recovery(client, 16), NONE);
        }
        check.due("live(0)", x.live(0), NONE);
        check.due("request(0, 0)", x.request(0, 0), NONE);
        check.due("queued(false, 0)", x.queued(false, 0), NONE);
        check.due("queued(true, 0)", x.queued(true, 0), NONE);
        for (int worker = 0; worker < 4; worker++) {
            check.due("atWorker(false)", x.atWorker(false, worker), NONE);
            check.due("atWorker(true)", x.atWorker(true, worker), NONE);
        }
        check.due("window(0, 1)", x.window(0, 1), STATE);
        check.due("quiet(16)", x.quiet(16), 0);
        check.due("amplification()", x.amplification(), 0);
        check.due("undo()", x.undo(), STATE);
        check.due("setServer(0, 3)", x.setServer(0, 3), 2);
        check.due("setServer(1, 3)", x.setServer(1, 3), 8);
        check.due("setServer(2, 3)", x.setServer(2, 3), 1);
        check.due("setServer(3, 3)", x.setServer(3, 3), 4);
        check.due("setDiscipline(3)", x.setDiscipline(3), 0);
        for (int which = 0; which < 3; which++) {
            check.due("setSwitch(" + which + ")", x.setSwitch(which, true), 0);
        }
        check.due("run(60)", x.run(60), 0);
        check.due("told(0)", x.told(0), 60);
        check.due("told(1)", x.told(1), 0);
        check.due("another object's digest()", new RetryStorm().digest(), new RetryStorm().digest());
        check.due("another object's told(0)", new RetryStorm().told(0), 0);
    }

    private static void setInRange() {
        check.part("promise 2 and 3, in range");
        for (int client = 0; client < 6; client++) {
            RetryStorm x = new RetryStorm();
            for (int what = 0; what < 12; what++) {
                check.due("set to the least", x.set(client, what, LOW[what]), FIRST[what]);
                check.due("the least", x.property(client, what), LOW[what]);
                check.due("set to the most", x.set(client, what, HIGH[what]), LOW[what]);
                check.due("the most", x.property(client, what), HIGH[what]);
            }
            for (int other = 0; other < 6; other++) {
                for (int what = 0; other != client && what < 12; what++) {
                    check.due("another client's property " + what, x.property(other, what), FIRST[what]);
                }
            }
        }
    }

    private static void setOutOfRange() {
        check.part("promise 2, out of range");
        RetryStorm x = new RetryStorm();
        x.set(5, 11, 4);
        long before = x.digest();
        for (int what = 0; what < 12; what++) {
            check.due("below the least of " + what, x.set(0, what, LOW[what] - 1), BAD);
            check.due("above the most of " + what, x.set(0, what, HIGH[what] + 1), BAD);
            for (int v : OUTSIDE) {
                check.due("set(0, " + what + ", " + v + ")", x.set(0, what, v), BAD);
            }
            check.due("set(-1, " + what + ", 1)", x.set(-1, what, 1), BAD);
            check.due("set(6, " + what + ", 1)", x.set(6, what, 1), BAD);
        }
        for (int what : new int[] {Integer.MIN_VALUE, -1, 12, 13, Integer.MAX_VALUE}) {
            check.due("set(0, " + what + ", 1)", x.set(0, what, 1), BAD);
        }
        check.due("digest()", x.digest(), before);
        check.due("told(12)", x.told(12), 1);
    }

    private static void setOfUnitsAndDeadlines() {
        check.part("promise 2, units and deadlines");
        RetryStorm x = new RetryStorm();
        check.due("set(3, 10, 7)", x.set(3, 10, 7), 20);
        check.due("count(3, 7)", x.count(3, 7), 70);
        check.due("count(2, 7)", x.count(2, 7), 200);
        check.due("set(3, 11, 4)", x.set(3, 11, 4), 10);
        check.due("count(3, 7)", x.count(3, 7), 70);
        check.due("set(3, 10, 0)", x.set(3, 10, 0), 7);
        check.due("count(3, 7)", x.count(3, 7), 0);
        check.due("set(3, 10, 20)", x.set(3, 10, 20), 0);
        check.due("count(3, 7)", x.count(3, 7), 200);
        x.set(0, 0, 50);
        x.set(0, 8, 12);
        x.run(1);
        check.due("request(0, 1)", x.request(0, 1), 20);
        check.due("request(0, 4)", x.request(0, 4), 10);
        x.set(0, 2, 5);
        x.set(0, 4, 3);
        check.due("request(0, 1) keeps", x.request(0, 1), 20);
        check.due("request(0, 4) keeps", x.request(0, 4), 10);
    }

    private static void propertyOutOfRange() {
        check.part("promise 3, out of range");
        RetryStorm x = new RetryStorm();
        for (int wrong : new int[] {Integer.MIN_VALUE, -1, 12, Integer.MAX_VALUE}) {
            check.due("property(0, " + wrong + ")", x.property(0, wrong), BAD);
            check.due("property(" + wrong + ", 0)", x.property(wrong, 0), BAD);
        }
        check.due("property(6, 0)", x.property(6, 0), BAD);
        check.due("property(5, 11)", x.property(5, 11), 10);
    }

    private static void setServer() {
        check.part("promise 4");
        RetryStorm x = new RetryStorm();
        int[] first = {2, 8, 1, 4};
        for (int what = 0; what < 4; what++) {
            int most = what % 2 == 0 ? 4 : 16;
            check.due("setServer(" + what + ", 0)", x.setServer(what, 0), BAD);
            check.due("setServer(" + what + ", -1)", x.setServer(what, -1), BAD);
            check.due("setServer(" + what + ", most + 1)", x.setServer(what, most + 1), BAD);
            check.due("setServer(" + what + ", MAX)", x.setServer(what, Integer.MAX_VALUE), BAD);
            check.due("setServer(" + what + ", most)", x.setServer(what, most), first[what]);
            check.due("setServer(" + what + ", 1)", x.setServer(what, 1), most);
            check.due("setServer(" + what + ", 2)", x.setServer(what, 2), 1);
        }
        int records = x.told(12);
        check.due("setServer(-1, 1)", x.setServer(-1, 1), BAD);
        check.due("setServer(4, 1)", x.setServer(4, 1), BAD);
        check.due("setServer(MIN, 1)", x.setServer(Integer.MIN_VALUE, 1), BAD);
        check.due("told(12)", x.told(12), records);
    }

    private static void setServerInUse() {
        check.part("promise 4, the front server in use");
        RetryStorm x = new RetryStorm();
        x.set(0, 0, 1);
        x.set(0, 8, 12);
        x.run(5);
        check.due("told(5)", x.told(5), 2);
        check.due("told(3)", x.told(3), 3);
        check.due("setServer(0, 1)", x.setServer(0, 1), STATE);
        check.due("setServer(0, 0)", x.setServer(0, 0), BAD);
        check.due("setServer(0, 5)", x.setServer(0, 5), BAD);
        check.due("setServer(1, 2)", x.setServer(1, 2), STATE);
        check.due("setServer(1, 0)", x.setServer(1, 0), BAD);
        check.due("told(12) after refusals", x.told(12), 3);
        check.due("setServer(1, 3)", x.setServer(1, 3), 8);
        check.due("setServer(0, 2)", x.setServer(0, 2), 2);
        check.due("setServer(2, 4)", x.setServer(2, 4), 1);
        check.due("run(1)", x.run(1), 0);
        check.due("a queue of 3 is full", x.count(0, 4), 1);
        check.due("setServer(0, 3)", x.setServer(0, 3), 2);
        x.run(1);
        check.due("worker 2 took one", x.atWorker(false, 2), 2);
        check.due("setServer(0, 2)", x.setServer(0, 2), STATE);
        // An abandoned attempt is an attempt that a worker has.
        RetryStorm y = new RetryStorm();
        y.set(0, 0, 50);
        y.set(0, 8, 12);
        y.set(0, 2, 1);
        y.surge(0, 2, 0, 1);
        y.run(1);
        check.due("atWorker(false, 1)", y.atWorker(false, 1), -8);
        check.due("setServer(0, 1)", y.setServer(0, 1), STATE);
    }

    private static void setBackServerInUse() {
        check.part("promise 4, the back server in use");
        RetryStorm x = new RetryStorm();
        x.setServer(0, 4);
        x.setServer(2, 2);
        x.set(0, 0, 50);
        x.set(0, 8, 1);
        x.set(0, 9, 12);
        x.set(0, 2, 60);
        x.set(0, 4, 40);
        x.surge(0, 4, 0, 1);
        x.run(2);
        check.due("told(6)", x.told(6), 2);
        check.due("told(4)", x.told(4), 2);
        check.due("told(5)", x.told(5), 4);
        check.due("setServer(2, 1)", x.setServer(2, 1), STATE);
        check.due("setServer(3, 1)", x.setServer(3, 1), STATE);
        check.due("setServer(3, 17)", x.setServer(3, 17), BAD);
        check.due("setServer(3, 2)", x.setServer(3, 2), 4);
        check.due("setServer(2, 2)", x.setServer(2, 2), 2);
        // The front workers whose attempts have called are held, and have them.
        check.due("setServer(0, 3)", x.setServer(0, 3), STATE);
        check.due("run(11)", x.run(11), 2);
        check.due("told(5)", x.told(5), 2);
        check.due("setServer(0, 3)", x.setServer(0, 3), STATE);
        check.due("atWorker(false, 0)", x.atWorker(false, 0), NONE);
        check.due("atWorker(false, 3)", x.atWorker(false, 3), 3);
    }

    private static void setDiscipline() {
        check.part("promise 5");
        RetryStorm x = new RetryStorm();
        int before = 0;
        for (int d : new int[] {3, 2, 1, 0, 0}) {
            check.due("setDiscipline(" + d + ")", x.setDiscipline(d), before);
            check.due("told(11)", x.told(11), d);
            before = d;
        }
        check.due("told(12)", x.told(12), 4);
        RetryStorm y = new RetryStorm();
        for (int d : new int[] {Integer.MIN_VALUE, -1, 4, Integer.MAX_VALUE}) {
            check.due("setDiscipline(" + d + ")", y.setDiscipline(d), BAD);
        }
        check.due("told(12)", y.told(12), 0);
        check.due("told(11)", y.told(11), 0);
    }

    private static void setSwitch() {
        check.part("promise 6");
        RetryStorm x = new RetryStorm();
        for (int which = 0; which < 3; which++) {
            check.due("on", x.setSwitch(which, true), 0);
            check.due("on again", x.setSwitch(which, true), 1);
            check.due("off", x.setSwitch(which, false), 1);
            check.due("off again", x.setSwitch(which, false), 0);
        }
        RetryStorm y = new RetryStorm();
        for (int which : new int[] {Integer.MIN_VALUE, -1, 3, Integer.MAX_VALUE}) {
            check.due("setSwitch(" + which + ")", y.setSwitch(which, true), BAD);
        }
        check.due("told(12)", y.told(12), 0);
    }

    private static void surge() {
        check.part("promise 7");
        RetryStorm x = new RetryStorm();
        x.set(0, 0, 2);
        x.set(0, 1, 1);
        x.set(1, 0, 2);
        x.set(1, 1, 1);
        check.due("surge(0, 3, 1, 3)", x.surge(0, 3, 1, 3), 4);
        x.run(1);
        check.due("before the phase", x.count(0, 0), 0);
        x.run(1);
        check.due("tick 1, the first", x.count(0, 0), 3);
        check.due("tick 1, client 1", x.count(1, 0), 1);
        x.run(1);
        check.due("tick 2, not due", x.count(0, 0), 3);
        x.run(1);
        check.due("tick 3, the last", x.count(0, 0), 6);
        check.due("surge(0, 4, 1, 1), tick 5", x.surge(0, 4, 1, 1), 6);
        x.run(2);
        check.due("tick 5", x.count(0, 0), 10);
        x.run(2);
        check.due("tick 7, after it", x.count(0, 0), 11);
        check.due("surge in place of one", x.surge(0, 2, 1, 100), 109);
        check.due("surge(0, 3, 5, 1)", x.surge(0, 3, 5, 1), 14);
        x.run(2);
        check.due("tick 9, the old one is gone", x.count(0, 0), 12);
        x.run(2);
        check.due("tick 11", x.count(0, 0), 13);
        x.run(2);
        check.due("tick 13", x.count(0, 0), 16);
        check.due("factor 1", x.surge(1, 1, 0, 100), 114);
        x.run(2);
        check.due("tick 15, factor 1", x.count(1, 0), 8);
    }

    private static void surgeOutOfRange() {
        check.part("promise 7, out of range");
        RetryStorm x = new RetryStorm();
        int[][] wrong = {{-1, 1, 0, 1}, {6, 1, 0, 1}, {0, 0, 0, 1}, {0, 5, 0, 1}, {0, 1, -1, 1}, {0, 1, 101, 1},
            {0, 1, 0, 0}, {0, 1, 0, 101}, {0, 1, Integer.MAX_VALUE, 1}, {0, 1, 0, Integer.MIN_VALUE}};
        for (int[] w : wrong) {
            check.due("a wrong surge", x.surge(w[0], w[1], w[2], w[3]), BAD);
        }
        check.due("told(12)", x.told(12), 0);
        check.due("recovery(0, 0)", x.recovery(0, 0), NONE);
        check.due("surge(5, 4, 100, 100)", x.surge(5, 4, 100, 100), 200);
        check.due("surge(5, 1, 0, 1)", x.surge(5, 1, 0, 1), 1);
        check.due("told(12)", x.told(12), 2);
    }
}
