/** Promises 9 and 10: what another discipline would bring. */
public final class WhatIfTest {
    private static final int BAD = RetryStorm.BAD;
    private static final Check check = new Check("WhatIfTest");

    public static void main(String[] args) {
        outOfRange();
        oneRequest();
        asIfRun();
        ties();
        withSwitches();
        check.end();
    }

    /** More comes than the one worker can do, and who waits long in the queue comes too late. */
    private static RetryStorm overloaded(int jitter, int patience) {
        RetryStorm x = new RetryStorm();
        x.setServer(0, 1);
        x.setServer(1, 16);
        x.set(0, 0, 1);
        x.set(0, 4, 4);
        x.set(0, 3, 2);
        x.set(0, 7, jitter);
        x.set(1, 0, 3);
        x.set(1, 2, patience);
        x.set(1, 4, 7);
        x.set(1, 7, 3);
        x.set(1, 8, 3);
        x.run(30);
        return x;
    }

    private static void outOfRange() {
        check.part("out of range");
        RetryStorm x = overloaded(0, 20);
        long before = x.digest();
        for (int wrong : new int[] {Integer.MIN_VALUE, -1, 0, 61, Integer.MAX_VALUE}) {
            check.due("ifRun(" + wrong + ", 0)", x.ifRun(wrong, 0), BAD);
            check.due("bestDiscipline(" + wrong + ")", x.bestDiscipline(wrong), BAD);
        }
        for (int wrong : new int[] {Integer.MIN_VALUE, -1, 4, Integer.MAX_VALUE}) {
            check.due("ifRun(1, " + wrong + ")", x.ifRun(1, wrong), BAD);
        }
        check.due("bestDiscipline(16)", x.bestDiscipline(16), BAD);
        check.due("digest()", x.digest(), before);
    }

    private static void oneRequest() {
        check.part("one request");
        RetryStorm x = new RetryStorm();
        x.set(0, 0, 50);
        x.set(0, 8, 3);
        check.due("ifRun(2, 0)", x.ifRun(2, 0), 0);
        check.due("ifRun(3, 0)", x.ifRun(3, 0), 3);
        check.due("ifRun(60, 3)", x.ifRun(60, 3), 6);
        check.due("told(0)", x.told(0), 0);
        check.due("told(7)", x.told(7), 0);
        check.due("told(12)", x.told(12), 2);
        x.run(1);
        check.due("work before counts when it becomes good", x.ifRun(2, 1), 3);
        x.run(2);
        check.due("good work before does not count", x.ifRun(2, 1), 0);
    }

    private static void asIfRun() {
        check.part("as if it had been run");
        boolean matters = false;
        for (int jitter = 0; jitter < 4; jitter++) {
            for (int ticks = 1; ticks <= 60; ticks += ticks < 15 ? 1 : 15) {
                RetryStorm x = overloaded(jitter, 12);
                long before = x.digest();
                int best = 0;
                int most = -1;
                for (int d = 0; d < 4; d++) {
                    RetryStorm y = overloaded(jitter, 12);
                    int good = y.told(7);
                    y.setDiscipline(d);
                    y.run(ticks);
                    int more = y.told(7) - good;
                    check.due("ifRun(" + ticks + ", " + d + ")", x.ifRun(ticks, d), more);
                    matters |= d > 0 && more > most;
                    best = more > most ? d : best;
                    most = Math.max(most, more);
                }
                check.due("bestDiscipline(" + ticks + ")", x.bestDiscipline(ticks), ticks > 15 ? BAD : best);
                check.due("digest()", x.digest(), before);
                check.due("told(11)", x.told(11), 0);
                x.run(40);
                RetryStorm z = overloaded(jitter, 12);
                z.run(40);
                check.due("what is drawn later is the same", x.digest(), z.digest());
            }
        }
        check.holds("a later discipline is better somewhere", matters);
        RetryStorm x = overloaded(0, 12);
        check.due("the first in are too late", x.ifRun(15, 0), 0);
        check.holds("the last in are not", x.ifRun(15, 1) > 0);
        check.due("bestDiscipline(15)", x.bestDiscipline(15), 1);
    }

    /** A worker of one; request 0 comes at tick 0, and those of the clients 1 and 2 at ticks of their own. */
    private static RetryStorm three(int timeout, int firstPhase, int secondPhase) {
        RetryStorm x = new RetryStorm();
        x.setServer(0, 1);
        x.setServer(1, 1);
        int[] phases = {0, firstPhase, secondPhase};
        int[] timeouts = {timeout, 10, 40};
        int[] works = {12, 3, 5};
        for (int client = 0; client < 3; client++) {
            x.set(client, 0, 50);
            x.set(client, 1, phases[client]);
            x.set(client, 2, 60);
            x.set(client, 3, 1);
            x.set(client, 4, timeouts[client]);
            x.set(client, 8, works[client]);
        }
        return x;
    }

    private static void withSwitches() {
        check.part("the switches hold there, too");
        RetryStorm displacing = three(20, 1, 2);
        check.due("without displacing request 2 is rejected", displacing.ifRun(20, 0), 12);
        displacing.setSwitch(0, true);
        check.due("with displacing request 1 is", displacing.ifRun(20, 0), 12 + 5);
        RetryStorm passing = three(4, 1, 50);
        check.due("without passing request 0 holds the worker", passing.ifRun(20, 0), 0);
        passing.setSwitch(1, true);
        check.due("with passing it is hopeless", passing.ifRun(20, 0), 3);
        RetryStorm cancelling = three(4, 4, 50);
        check.due("without cancelling request 0 holds the worker", cancelling.ifRun(20, 0), 0);
        cancelling.setSwitch(2, true);
        check.due("with cancelling it leaves it", cancelling.ifRun(20, 0), 3);
    }

    private static void ties() {
        check.part("of several the smallest");
        RetryStorm x = new RetryStorm();
        x.setDiscipline(3);
        check.due("no work", x.bestDiscipline(15), 0);
        x.set(0, 0, 5);
        check.due("the same work", x.bestDiscipline(15), 0);
    }
}
