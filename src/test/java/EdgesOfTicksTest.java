/** The edges of the Description's TICKS and WORK, and of the promises 8 to 10, sentence by sentence. */
public final class EdgesOfTicksTest {
    private static final int NONE = RetryStorm.NONE, ABANDONED = -8;
    private static final Check check = new Check("EdgesOfTicksTest");

    public static void main(String[] args) {
        sentAtOnce();
        waitingOnesInOrder();
        theNewOnesComeFirst();
        workersTakeInOrder();
        backWorkersTakeFirst();
        heldWorkersDoNotWork();
        aFreeWorkerTakesInTheNextTick();
        frontWorkersEndInOrder();
        answersBeforeCalls();
        freedWorkers();
        abandonedInOrder();
        decidedAtOnce();
        sentInTheLastStepsNextTick();
        goodWork();
        wastedWork();
        pendingWork();
        successesOfARun();
        aRunInParts();
        ifRunOfSomeTicks();
        ifRunChangesNothing();
        smallestDiscipline();
        check.end();
    }

    private static void sentAtOnce() {
        check.sentence("1. Each client that is due, in ascending order, creates its requests; each is sent at once.");
        // Client 1 has the places of the queue before client 4, whose requests are rejected one by one.
        RetryStorm x = new RetryStorm();
        x.setServer(1, 3);
        Storms.burst(x, 4, 0, 3, 2, 0);
        Storms.burst(x, 1, 0, 2, 2, 0);
        x.run(1);
        check.due("rejections of client 1", x.count(1, 4), 0);
        check.due("rejections of client 4", x.count(4, 4), 2);
        check.due("request 2 is in the queue", x.request(2, 3), 1);
        check.due("request 3 waits", x.request(3, 3), 0);
        check.due("request 4 waits", x.request(4, 3), 0);
        // One that fails at once leaves its place among the 16 to the next one.
        RetryStorm y = Storms.queueOf(15, 15);
        Storms.burst(y, 3, 1, 4, 2, 0);
        y.set(3, Storms.ATTEMPTS, 1);
        y.run(2);
        check.due("told(1)", y.told(1), 16);
        check.due("lost", y.count(3, 3), 1);
        RetryStorm z = Storms.queueOf(15, 14);
        Storms.burst(z, 3, 1, 4, 2, 0);
        z.set(3, Storms.ATTEMPTS, 1);
        z.run(2);
        check.due("told(1)", z.told(1), 15);
        check.due("rejected, not lost", z.count(3, 4), 2);
    }

    private static void waitingOnesInOrder() {
        check.sentence("2. The waiting requests whose tick has come are sent, in ascending order of their numbers.");
        RetryStorm x = Storms.blocked();
        x.set(1, Storms.BASE, 1);
        // Request 2 waits from tick 9 to 17, request 3 from tick 3 to 17; the queue has one place at tick 17.
        Storms.refused(x, 2, 1);
        x.set(2, Storms.PHASE, 3);
        x.set(2, Storms.BASE, 14);
        x.run(8);
        check.due("request 2 is sent at", x.request(2, 4), 17);
        check.due("request 3 is sent at", x.request(3, 4), 17);
        x.run(7);
        check.due("before tick 17 request 2 waits", x.request(2, 3), 0);
        check.due("before tick 17 request 3 waits", x.request(3, 3), 0);
        check.due("told(3)", x.told(3), 0);
        x.run(1);
        check.due("request 2 has the place", x.request(2, 3), 1);
        check.due("request 3 is rejected once more", x.count(2, 4), 2);
    }

    private static void theNewOnesComeFirst() {
        check.sentence("A tick t consists of these steps, in this order:");
        RetryStorm x = Storms.blocked();
        x.set(1, Storms.BASE, 11);
        Storms.refused(x, 2, 1);
        x.set(2, Storms.PHASE, 13);
        x.run(12);
        check.due("the new one has the place", x.request(3, 3), 1);
        check.due("the one that waited is rejected", x.count(1, 4), 2);
        // The queue is looked at before the workers take from it.
        RetryStorm y = new RetryStorm();
        y.setServer(1, 1);
        Storms.burst(y, 0, 0, 2, 1, 0);
        y.run(1);
        check.due("two workers are free, but the queue was full", y.count(0, 4), 1);
    }

    private static void workersTakeInOrder() {
        check.sentence("3. Each back worker that has no attempt, in ascending order, takes one from the queue of "
            + "the back server; then each front worker likewise, from the queue of the front server.");
        for (int requests = 1; requests <= 4; requests++) {
            RetryStorm x = new RetryStorm();
            x.setServer(0, 4);
            x.setServer(2, 4);
            Storms.burst(x, 0, 0, requests, 1, 12);
            x.run(1);
            for (int worker = 0; worker < 4; worker++) {
                check.due("atWorker(false, " + worker + ")", x.atWorker(false, worker), worker < requests ? worker : NONE);
            }
            x.run(1);
            for (int worker = 0; worker < 4; worker++) {
                check.due("atWorker(true, " + worker + ")", x.atWorker(true, worker), worker < requests ? worker : NONE);
            }
        }
    }

    private static void backWorkersTakeFirst() {
        check.sentence("then each front worker likewise");
        // At tick 5 the back worker finds request 1 hopeless, whose front worker then takes request 2 in the same tick.
        RetryStorm x = Storms.one(1, 4);
        x.surge(0, 2, 0, 1);
        x.set(0, Storms.TIMEOUT, 8);
        x.setSwitch(1, true);
        Storms.burst(x, 1, 4, 2, 6, 0);
        x.run(5);
        check.due("worker 1 is held", x.atWorker(false, 1), 1);
        x.run(1);
        check.due("worker 0 takes", x.atWorker(false, 0), 2);
        check.due("worker 1 takes", x.atWorker(false, 1), 3);
    }

    private static void heldWorkersDoNotWork() {
        check.sentence("4. Each back worker that has an attempt, and each front worker whose attempt has not called "
            + "the back server, works for one tick.");
        RetryStorm x = Storms.everyPlace();
        // Work in tick 2: the back worker's and one front worker's; two front workers are held.
        int before = x.told(9);
        x.run(1);
        check.due("told(9)", x.told(9), before + 2);
        check.due("told(5)", x.told(5), 3);
        check.due("told(6)", x.told(6), 1);
    }

    private static void aFreeWorkerTakesInTheNextTick() {
        check.sentence("A tick t consists of these steps, in this order:");
        RetryStorm x = new RetryStorm();
        x.setServer(0, 1);
        Storms.burst(x, 0, 0, 2, 3, 0);
        x.run(3);
        check.due("after tick 2 the worker has none", x.atWorker(false, 0), NONE);
        check.due("the next one is in the queue", x.request(1, 3), 1);
        x.run(1);
        check.due("at tick 3 it takes the next one", x.atWorker(false, 0), 1);
        check.due("told(9)", x.told(9), 1);
    }

    private static void frontWorkersEndInOrder() {
        check.sentence("Then the front workers, in ascending order, whose attempt has been finished by the front work");
        RetryStorm x = new RetryStorm();
        x.setServer(3, 1);
        Storms.burst(x, 0, 0, 1, 1, 0);
        Storms.burst(x, 1, 0, 1, 3, 5);
        Storms.burst(x, 2, 1, 1, 2, 5);
        x.run(2);
        check.due("worker 0 has", x.atWorker(false, 0), 2);
        check.due("worker 1 has", x.atWorker(false, 1), 1);
        x.run(1);
        check.due("worker 0's has the place", x.queued(true, 0), 2);
        check.due("worker 1's is rejected", x.count(1, 4), 1);
    }

    private static void answersBeforeCalls() {
        check.sentence("The back workers, in ascending order, whose attempt is finished: it is answered, and both "
            + "its workers are free.");
        // At the end of tick 3 the back worker ends request 0 while request 2 calls: the queue of one is still full.
        RetryStorm x = new RetryStorm();
        x.setServer(0, 3);
        x.setServer(3, 1);
        Storms.burst(x, 0, 0, 1, 1, 3);
        Storms.burst(x, 1, 0, 1, 2, 3);
        Storms.burst(x, 2, 0, 1, 4, 3);
        check.due("run(4)", x.run(4), 1);
        check.due("the back worker is free", x.atWorker(true, 0), NONE);
        check.due("its front worker is free", x.atWorker(false, 0), NONE);
        check.due("request 1 is in the back queue until the next tick", x.request(1, 3), 3);
        check.due("request 2 is rejected", x.count(2, 4), 1);
        check.due("its worker is free", x.atWorker(false, 2), NONE);
    }

    private static void freedWorkers() {
        check.sentence("it is answered, and the worker is free; or it calls the back server (and if that rejects "
            + "it, the worker is free).");
        RetryStorm x = new RetryStorm();
        x.setServer(0, 3);
        x.setServer(3, 1);
        Storms.burst(x, 0, 0, 1, 2, 0);
        Storms.burst(x, 1, 0, 2, 2, 3);
        x.run(2);
        check.due("answered", x.atWorker(false, 0), NONE);
        check.due("called: held", x.atWorker(false, 1), 1);
        check.due("rejected", x.atWorker(false, 2), NONE);
        check.due("told(5)", x.told(5), 1);
    }

    private static void abandonedInOrder() {
        check.sentence("6. The live requests, in ascending order of their numbers, whose attempt expires at this "
            + "tick (t + 1) abandon it.");
        // Request 1 comes later, but is at the lower worker; both expire at tick 5.
        RetryStorm x = new RetryStorm();
        for (int client = 0; client < 3; client++) {
            Storms.burst(x, client, client, 1, client == 0 ? 1 : 12, 0);
            x.set(client, Storms.JITTER, 1);
            x.set(client, Storms.BASE, 7);
        }
        x.set(1, Storms.TIMEOUT, 4);
        x.set(2, Storms.TIMEOUT, 3);
        x.run(4);
        check.due("told(2) at tick 4", x.told(2), 0);
        x.run(1);
        check.due("told(2) at tick 5", x.told(2), 2);
        check.due("request 1 drew first", x.request(1, 4), 5 + 1 + 16838 % 7);
        check.due("request 2 drew then", x.request(2, 4), 5 + 1 + 5758 % 7);
        check.due("tick 5 is not tick 6", x.count(1, 5) + x.count(2, 5), 2);
    }

    private static void decidedAtOnce() {
        check.sentence("If an attempt fails in one of these steps, it is decided at once whether its request waits "
            + "or fails.");
        // Client 1 has 10 units: the first of two rejections in one tick takes them, the second one fails.
        RetryStorm x = Storms.blocked();
        Storms.refused(x, 1, 2);
        x.set(1, Storms.BUDGET, 1);
        x.set(1, Storms.REFUND, 0);
        x.run(1);
        check.due("the first waits", x.request(2, 3), 0);
        check.due("the second has failed", x.request(3, 3), NONE);
        RetryStorm y = Storms.blocked();
        Storms.refused(y, 1, 2);
        y.set(1, Storms.BUDGET, 1);
        y.set(1, Storms.REFUND, 10);
        y.run(1);
        check.due("with a refund in between the second waits, too", y.request(3, 3), 0);
        check.due("units", y.count(1, 7), 0);
    }

    private static void sentInTheLastStepsNextTick() {
        check.sentence("In the steps 1 to 4 now is t, in the steps 5 and 6 it is t + 1.");
        // The least delay is a tick. Rejected at tick 2, it is sent at tick 3; abandoned at tick 3, at tick 4.
        RetryStorm x = Storms.blocked();
        x.set(1, Storms.CAP, 1);
        x.run(1);
        check.due("a rejection in step 1 of tick 2", x.request(2, 4), 3);
        x.run(1);
        check.due("a rejection in step 2 of tick 3", x.request(2, 4), 4);
        RetryStorm y = Storms.one(5, 0);
        y.set(0, Storms.CAP, 1);
        y.set(0, Storms.TIMEOUT, 3);
        y.run(3);
        check.due("a timeout in step 6 of tick 2", y.request(0, 4), 4);
        RetryStorm z = Storms.one(5, 0);
        z.set(0, Storms.CAP, 1);
        z.set(0, Storms.TIMEOUT, 3);
        z.setSwitch(1, true);
        z.run(1);
        check.due("hopelessness in step 3 of tick 0", z.request(0, 4), 1);
        RetryStorm w = new RetryStorm();
        w.setServer(3, 1);
        Storms.burst(w, 0, 0, 2, 3, 5);
        w.set(0, Storms.CAP, 1);
        w.run(3);
        check.due("a rejection in step 5 of tick 2", w.request(1, 4), 4);
    }

    private static void goodWork() {
        check.sentence("When an attempt has been answered while its request was live and had not abandoned it, all "
            + "its work is good");
        RetryStorm x = Storms.one(3, 4);
        x.run(6);
        check.due("before its answer", x.told(7), 0);
        x.run(1);
        check.due("front and back work", x.told(7), 7);
        check.due("told(8)", x.told(8), 0);
        check.due("told(9)", x.told(9), 0);
    }

    private static void wastedWork() {
        check.sentence("when an attempt has left the servers in any other way, all its work is wasted.");
        // Answered at the tick after it was abandoned, and its request has failed.
        RetryStorm x = Storms.one(3, 4);
        x.set(0, Storms.TIMEOUT, 6);
        x.set(0, Storms.ATTEMPTS, 1);
        x.run(6);
        check.due("abandoned: wasted", x.told(8), 0);
        check.due("abandoned: pending", x.told(9), 6);
        x.run(1);
        check.due("answered to nothing: good", x.told(7), 0);
        check.due("answered to nothing: wasted", x.told(8), 7);
        check.due("answered to nothing: the tick's", x.window(3, 1), 7);
        check.due("the ticks before", x.window(3, 7), 7);
        // Removed by cancelling, in the tick in which it expires.
        RetryStorm y = Storms.one(3, 4);
        y.set(0, Storms.TIMEOUT, 6);
        y.set(0, Storms.ATTEMPTS, 1);
        y.setSwitch(2, true);
        y.run(6);
        check.due("cancelled: wasted", y.told(8), 6);
        check.due("cancelled: the tick's", y.window(3, 1), 6);
        check.due("cancelled: pending", y.told(9), 0);
        y.run(60);
        check.due("cancelled: not once more", y.told(8), 6 + 6);
    }

    private static void pendingWork() {
        check.sentence("Work of attempts that are still there is pending.");
        RetryStorm x = new RetryStorm();
        check.due("nothing is there", x.told(9), 0);
        x.setServer(0, 4);
        Storms.burst(x, 0, 0, 4, 12, 12);
        x.set(0, Storms.TIMEOUT, 20);
        for (int t = 1; t <= 12; t++) {
            x.run(1);
            check.due("four workers after tick " + t, x.told(9), 4 * t);
        }
        for (int t = 1; t <= 11; t++) {
            x.run(1);
            check.due("one back worker, even if all are abandoned", x.told(9), 48 + t);
        }
        check.due("atWorker(true, 0)", x.atWorker(true, 0), ABANDONED);
        x.run(1);
        check.due("the first one left", x.told(9), 36);
        check.due("told(8)", x.told(8), 24);
    }

    private static void successesOfARun() {
        check.sentence("Returns the number of successes in these ticks; BAD if ticks is out of range.");
        RetryStorm x = Storms.one(3, 0);
        x.surge(0, 2, 0, 1);
        check.due("none yet", x.run(2), 0);
        check.due("two", x.run(1), 2);
        check.due("none any more", x.run(1), 0);
        // One more comes at tick 50, and is answered at the end of tick 52.
        check.due("ticks 4 to 51", x.run(48), 0);
        check.due("tick 52", x.run(1), 1);
    }

    private static void aRunInParts() {
        check.sentence("`ticks`: the number of ticks, 1 to 60");
        RetryStorm whole = Storms.everyPlace();
        RetryStorm parts = Storms.everyPlace();
        int sum = 0;
        for (int i = 0; i < 60; i++) {
            sum += parts.run(1);
        }
        check.due("run(60)", whole.run(60), sum);
        for (int what = 0; what < 12; what++) {
            check.due("told(" + what + ")", whole.told(what), parts.told(what));
        }
    }

    private static void ifRunOfSomeTicks() {
        check.sentence("Returns the good work of these ticks; BAD if an argument is out of range.");
        RetryStorm x = Storms.one(3, 4);
        for (int ticks = 1; ticks <= 60; ticks++) {
            // One more comes at tick 50, and is answered at the end of tick 56.
            int want = ticks < 7 ? 0 : ticks < 57 ? 7 : 14;
            for (int discipline = 0; discipline < 4; discipline++) {
                check.due("ifRun(" + ticks + ", " + discipline + ")", x.ifRun(ticks, discipline), want);
            }
        }
        x.run(7);
        check.due("good work before these ticks is not theirs", x.ifRun(43, 0), 0);
        check.due("told(7)", x.told(7), 7);
    }

    private static void ifRunChangesNothing() {
        check.sentence("Tells how much work would become good in some ticks with another discipline. Nothing changes.");
        RetryStorm x = Storms.everyPlace();
        RetryStorm y = Storms.everyPlace();
        for (int discipline = 0; discipline < 4; discipline++) {
            x.ifRun(60, discipline);
        }
        x.bestDiscipline(15);
        check.due("digest()", x.digest(), y.digest());
        check.due("told(11)", x.told(11), 0);
        check.due("run(60)", x.run(60), y.run(60));
        check.due("digest() later", x.digest(), y.digest());
        check.due("undo()", x.undo(), y.undo());
        check.due("window(0, 2)", x.window(0, 2), y.window(0, 2));
        check.due("digest() after undo()", x.digest(), y.digest());
    }

    private static void smallestDiscipline() {
        check.sentence("Returns the discipline, the smallest one of several; BAD if ticks is out of range.");
        RetryStorm x = new RetryStorm();
        for (int ticks = 1; ticks <= 15; ticks++) {
            x.setDiscipline(ticks % 4);
            check.due("no work, bestDiscipline(" + ticks + ")", x.bestDiscipline(ticks), 0);
        }
        // At tick 12 the worker takes one; only the last one is still wanted, and needs 2 ticks.
        RetryStorm y = lastIsBest();
        int[] goods = {0, 2, 2, 0};
        for (int discipline = 0; discipline < 4; discipline++) {
            check.due("ifRun(2, " + discipline + ")", y.ifRun(2, discipline), goods[discipline]);
        }
        check.due("1 and 2 are best", y.bestDiscipline(2), 1);
        check.due("in one tick none is", y.bestDiscipline(1), 0);
        y.setServer(1, 4);
        check.due("2 of 4 are not more than half: 1 is best", y.bestDiscipline(2), 1);
        check.due("ifRun(2, 2)", y.ifRun(2, 2), 0);
        // Only the one that expires first is still wanted: it is in the middle.
        RetryStorm z = Storms.queueOf(9, 16);
        z.set(1, Storms.TIMEOUT, 13);
        z.set(0, Storms.FRONT, 12);
        z.set(2, Storms.FRONT, 12);
        z.run(12);
        check.due("3 is best", z.bestDiscipline(2), 3);
    }

    /** At tick 12 the requests 1 (which is abandoned) and 2 are in the queue, which has 3 places. */
    private static RetryStorm lastIsBest() {
        RetryStorm x = new RetryStorm();
        x.setServer(0, 1);
        x.setServer(1, 3);
        Storms.burst(x, 0, 0, 1, 12, 0);
        Storms.burst(x, 1, 1, 1, 2, 0);
        Storms.burst(x, 2, 2, 1, 2, 0);
        x.set(1, Storms.TIMEOUT, 5);
        x.set(1, Storms.ATTEMPTS, 1);
        x.run(12);
        return x;
    }
}
