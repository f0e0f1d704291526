/** Promise 8, and the Description's CLIENTS, SERVERS, REQUESTS, TICKS and WORK. */
public final class TicksTest {
    private static final int BAD = RetryStorm.BAD, NONE = RetryStorm.NONE, ABANDONED = -8;
    private static final int PERIOD = 0, PHASE = 1, PATIENCE = 2, ATTEMPTS = 3, TIMEOUT = 4, BASE = 5, FRONT = 8, BACK = 9;
    private static final Check check = new Check("TicksTest");

    public static void main(String[] args) {
        runAnswers();
        due();
        oneRequest();
        answeredAsItExpires();
        timeout();
        cancelling();
        cancellingAtTheBack();
        cancellingInTheQueue();
        disciplines();
        disciplineTwoAtHalf();
        displacing();
        displacingAnAbandonedOne();
        passing();
        passingSkipsTheAbandoned();
        passingAtTheBack();
        backServer();
        backIsFull();
        backWorksOnAbandoned();
        worksAreThoseWhenSent();
        orderOfCreation();
        sixteenAtOnce();
        check.end();
    }

    private static void runAnswers() {
        check.part("promise 8");
        RetryStorm x = new RetryStorm();
        for (int ticks : new int[] {Integer.MIN_VALUE, -1, 0, 61, Integer.MAX_VALUE}) {
            check.due("run(" + ticks + ")", x.run(ticks), BAD);
        }
        check.due("told(0)", x.told(0), 0);
        check.due("told(12)", x.told(12), 0);
        x.set(0, PERIOD, 3);
        x.set(0, FRONT, 1);
        check.due("run(1)", x.run(1), 1);
        check.due("run(60)", x.run(60), 20);
        check.due("told(0)", x.told(0), 61);
        check.due("count(0, 2)", x.count(0, 2), 21);
        check.due("succeededAt(0, 1)", x.succeededAt(0, 1), 21);
        check.due("told(7)", x.told(7), 21);
    }

    private static void due() {
        check.part("when a client is due");
        RetryStorm x = new RetryStorm();
        x.set(2, PERIOD, 3);
        x.set(2, PHASE, 4);
        int[] created = {0, 0, 0, 0, 1, 1, 1, 2, 2, 2, 3};
        for (int t = 0; t < created.length; t++) {
            x.run(1);
            check.due("after tick " + t, x.count(2, 0), created[t]);
        }
        check.due("others", x.count(1, 0), 0);
        x.set(2, PERIOD, 0);
        x.run(30);
        check.due("no period", x.count(2, 0), 3);
    }

    private static void oneRequest() {
        check.part("one request");
        RetryStorm x = Storms.one(3, 0);
        check.due("tick 0", x.run(1), 0);
        check.due("told(9)", x.told(9), 1);
        check.due("told(5)", x.told(5), 1);
        check.due("request(0, 3)", x.request(0, 3), 2);
        check.due("request(0, 4)", x.request(0, 4), 40);
        check.due("request(0, 1)", x.request(0, 1), 60);
        check.due("tick 1", x.run(1), 0);
        check.due("told(9)", x.told(9), 2);
        check.due("told(7)", x.told(7), 0);
        check.due("tick 2", x.run(1), 1);
        check.due("told(9)", x.told(9), 0);
        check.due("told(7)", x.told(7), 3);
        check.due("told(8)", x.told(8), 0);
        check.due("told(5)", x.told(5), 0);
        check.due("told(1)", x.told(1), 0);
        check.due("request(0, 0)", x.request(0, 0), NONE);
    }

    private static void answeredAsItExpires() {
        check.part("an answer at the tick of expiry");
        RetryStorm x = Storms.one(3, 0);
        x.set(0, TIMEOUT, 3);
        check.due("run(3)", x.run(3), 1);
        check.due("timeouts", x.count(0, 5), 0);
        RetryStorm y = Storms.one(3, 0);
        y.set(0, PATIENCE, 3);
        y.run(1);
        check.due("expires at the deadline", y.request(0, 4), 3);
        check.due("run(2)", y.run(2), 1);
    }

    private static void timeout() {
        check.part("timeout");
        RetryStorm x = Storms.one(4, 0);
        x.set(0, TIMEOUT, 3);
        x.set(0, BASE, 1);
        x.run(2);
        check.due("before", x.count(0, 5), 0);
        x.run(1);
        check.due("timeouts", x.count(0, 5), 1);
        check.due("atWorker(false, 0)", x.atWorker(false, 0), ABANDONED);
        check.due("told(5)", x.told(5), 1);
        check.due("it waits", x.request(0, 3), 0);
        check.due("until 3 + 1", x.request(0, 4), 4);
        check.due("pending", x.told(9), 3);
        check.due("tick 3 answers it to nothing", x.run(1), 0);
        check.due("wasted", x.told(8), 4);
        check.due("good", x.told(7), 0);
        check.due("atWorker(false, 0)", x.atWorker(false, 0), NONE);
        check.due("it still waits", x.request(0, 3), 0);
        x.run(1);
        check.due("sent at 4", x.request(0, 2), 2);
        check.due("it expires at 7", x.request(0, 4), 7);
        check.due("the worker has it", x.atWorker(false, 0), 0);
        x.run(2);
        check.due("timeouts", x.count(0, 5), 2);
        check.due("sent again at 9", x.request(0, 4), 9);
        x.run(5);
        check.due("the third and last", x.count(0, 5), 3);
        check.due("failed", x.count(0, 3), 1);
        check.due("told(1)", x.told(1), 0);
        check.due("amplification()", x.amplification(), 300);
    }

    private static void cancelling() {
        check.part("cancelling");
        RetryStorm x = Storms.one(4, 0);
        x.set(0, TIMEOUT, 3);
        x.setSwitch(2, true);
        x.run(3);
        check.due("timeouts", x.count(0, 5), 1);
        check.due("atWorker(false, 0)", x.atWorker(false, 0), NONE);
        check.due("told(5)", x.told(5), 0);
        check.due("wasted", x.told(8), 3);
        check.due("pending", x.told(9), 0);
        check.due("window(3, 1)", x.window(3, 1), 3);
        check.due("it waits", x.request(0, 3), 0);
        // Switched on later, cancelling does not remove what has been abandoned before.
        RetryStorm y = Storms.one(8, 0);
        y.set(0, TIMEOUT, 3);
        y.set(0, ATTEMPTS, 1);
        y.run(3);
        y.setSwitch(2, true);
        y.run(1);
        check.due("still there", y.atWorker(false, 0), ABANDONED);
    }

    private static void cancellingAtTheBack() {
        check.part("cancelling at the back server");
        RetryStorm x = Storms.one(1, 8);
        x.set(0, TIMEOUT, 4);
        x.set(0, ATTEMPTS, 1);
        x.surge(0, 2, 0, 1);
        x.setSwitch(2, true);
        x.run(3);
        check.due("one is at the back worker", x.request(0, 3), 4);
        check.due("one in the back queue", x.request(1, 3), 3);
        check.due("queued(true, 0)", x.queued(true, 0), 1);
        check.due("pending", x.told(9), 4);
        x.run(1);
        check.due("told(4)", x.told(4), 0);
        check.due("told(5)", x.told(5), 0);
        check.due("told(6)", x.told(6), 0);
        check.due("wasted", x.told(8), 5);
        check.due("failed", x.count(0, 3), 2);
    }

    private static void cancellingInTheQueue() {
        check.part("cancelling in the front queue");
        RetryStorm x = Storms.one(9, 0);
        x.setServer(0, 1);
        x.set(0, TIMEOUT, 4);
        x.set(0, ATTEMPTS, 1);
        x.surge(0, 3, 0, 1);
        x.run(3);
        check.due("queued(false, 1)", x.queued(false, 1), 2);
        RetryStorm y = Storms.one(9, 0);
        y.setServer(0, 1);
        y.set(0, TIMEOUT, 4);
        y.set(0, ATTEMPTS, 1);
        y.surge(0, 3, 0, 1);
        y.setSwitch(2, true);
        y.run(4);
        x.run(1);
        check.due("abandoned ones stay", x.queued(false, 1), ABANDONED);
        check.due("told(3)", x.told(3), 2);
        check.due("cancelled ones are gone", y.told(3), 0);
        check.due("wasted", y.told(8), 4);
    }

    /** Requests 0 to 3, with timeouts 20, 9, 30 and 9, come at ticks 0 to 3; a worker of one is free at tick 4. */
    private static RetryStorm queueOfThree() {
        RetryStorm x = new RetryStorm();
        x.setServer(0, 1);
        int[] timeouts = {20, 9, 30, 8};
        for (int client = 0; client < 4; client++) {
            x.set(client, PERIOD, 50);
            x.set(client, PHASE, client);
            x.set(client, PATIENCE, 60);
            x.set(client, TIMEOUT, timeouts[client]);
            x.set(client, FRONT, 4);
        }
        return x;
    }

    private static void disciplines() {
        check.part("disciplines");
        // Request 1 expires at tick 10, request 2 at 32, request 3 at 11.
        int[] second = {1, 3, 1, 1};
        int[] third = {2, 2, 2, 3};
        for (int d = 0; d < 4; d++) {
            RetryStorm x = queueOfThree();
            x.setDiscipline(d);
            x.run(5);
            check.due("discipline " + d + " takes", x.atWorker(false, 0), second[d]);
            x.run(4);
            check.due("discipline " + d + " takes then", x.atWorker(false, 0), third[d]);
        }
        RetryStorm x = queueOfThree();
        x.set(3, TIMEOUT, 7);
        x.setDiscipline(3);
        x.run(5);
        check.due("of two that expire at 10, the first that came", x.atWorker(false, 0), 1);
        RetryStorm y = queueOfThree();
        y.set(3, TIMEOUT, 6);
        y.setDiscipline(3);
        y.run(5);
        check.due("request 3 expires at 9", y.atWorker(false, 0), 3);
    }

    private static void disciplineTwoAtHalf() {
        check.part("discipline 2");
        int[] capacities = {3, 4, 5, 6, 7, 16};
        int[] takes = {3, 3, 3, 1, 1, 1};
        for (int i = 0; i < capacities.length; i++) {
            RetryStorm x = queueOfThree();
            x.setServer(1, capacities[i]);
            x.setDiscipline(2);
            x.run(5);
            check.due("3 of " + capacities[i], x.atWorker(false, 0), takes[i]);
        }
        // A second worker takes from what the first has left: two of five is not more than half.
        RetryStorm y = queueOfThree();
        y.setServer(1, 5);
        y.setDiscipline(2);
        y.run(4);
        y.setServer(0, 2);
        y.run(1);
        check.due("the first worker", y.atWorker(false, 0), 3);
        check.due("the second worker", y.atWorker(false, 1), 1);
    }

    private static void displacing() {
        check.part("displacing");
        RetryStorm x = queueOfThree();
        x.setServer(1, 2);
        x.run(4);
        check.due("without it the new one is rejected", x.count(3, 4), 1);
        check.due("and waits", x.request(3, 3), 0);
        check.due("queued(false, 0)", x.queued(false, 0), 1);
        RetryStorm y = queueOfThree();
        y.setServer(1, 2);
        y.setSwitch(0, true);
        y.run(4);
        check.due("the one that came first is rejected", y.count(1, 4), 1);
        check.due("the new one is not", y.count(3, 4), 0);
        check.due("the first waits", y.request(1, 3), 0);
        check.due("until 3 + 2", y.request(1, 4), 5);
        check.due("queued(false, 0)", y.queued(false, 0), 2);
        check.due("queued(false, 1)", y.queued(false, 1), 3);
        check.due("queued(false, 2)", y.queued(false, 2), NONE);
        RetryStorm z = queueOfThree();
        z.setServer(1, 2);
        z.setSwitch(0, true);
        z.set(1, ATTEMPTS, 1);
        z.run(4);
        check.due("it fails", z.request(1, 3), NONE);
        check.due("failed", z.count(1, 3), 1);
        check.due("the new one is still in the queue", z.request(3, 3), 1);
    }

    private static void displacingAnAbandonedOne() {
        check.part("displacing an abandoned attempt");
        RetryStorm x = queueOfThree();
        x.setServer(1, 2);
        x.setSwitch(0, true);
        x.set(1, TIMEOUT, 1);
        x.set(1, ATTEMPTS, 1);
        x.run(3);
        check.due("queued(false, 0)", x.queued(false, 0), ABANDONED);
        x.run(1);
        check.due("queued(false, 0)", x.queued(false, 0), 2);
        check.due("queued(false, 1)", x.queued(false, 1), 3);
        check.due("no rejection", x.count(1, 4), 0);
        check.due("the timeout", x.count(1, 5), 1);
        check.due("nobody else's", x.count(2, 4) + x.count(3, 4) + x.count(0, 4), 0);
    }

    private static void passing() {
        check.part("passing deadlines");
        RetryStorm x = Storms.one(3, 2);
        x.set(0, TIMEOUT, 4);
        x.setSwitch(1, true);
        x.run(1);
        check.due("hopeless at once", x.count(0, 6), 1);
        check.due("atWorker(false, 0)", x.atWorker(false, 0), NONE);
        check.due("it waits until 0 + 2", x.request(0, 4), 2);
        check.due("nothing is wasted", x.told(8), 0);
        RetryStorm y = Storms.one(3, 2);
        y.set(0, TIMEOUT, 5);
        y.setSwitch(1, true);
        check.due("just enough ticks", y.run(5), 1);
        check.due("hopeless", y.count(0, 6), 0);
        RetryStorm z = Storms.one(3, 2);
        z.set(0, TIMEOUT, 4);
        z.run(1);
        check.due("switched off", z.count(0, 6), 0);
        check.due("switched off", z.atWorker(false, 0), 0);
        RetryStorm w = Storms.one(5, 0);
        w.set(0, PATIENCE, 4);
        w.setSwitch(1, true);
        w.run(1);
        check.due("the deadline counts, too", w.count(0, 6), 1);
    }

    private static void passingSkipsTheAbandoned() {
        check.part("passing deadlines and abandoned attempts");
        RetryStorm x = queueOfThree();
        x.set(1, TIMEOUT, 1);
        x.set(1, ATTEMPTS, 1);
        x.set(1, FRONT, 1);
        x.set(2, TIMEOUT, 5);
        x.set(2, ATTEMPTS, 1);
        x.setSwitch(1, true);
        x.run(4);
        check.due("queued(false, 0)", x.queued(false, 0), ABANDONED);
        check.due("queued(false, 1)", x.queued(false, 1), 2);
        x.run(1);
        check.due("the worker takes the third", x.atWorker(false, 0), 3);
        check.due("told(3)", x.told(3), 0);
        check.due("the abandoned one is no failure again", x.count(1, 6), 0);
        check.due("the other is hopeless, 3 ticks for 4", x.count(2, 6), 1);
        check.due("and failed", x.count(2, 3), 1);
    }

    private static void passingAtTheBack() {
        check.part("passing deadlines at the back server");
        RetryStorm x = Storms.one(1, 4);
        x.set(0, TIMEOUT, 8);
        x.set(0, ATTEMPTS, 1);
        x.surge(0, 2, 0, 1);
        x.setSwitch(1, true);
        x.run(4);
        check.due("request 1 is in the back queue", x.request(1, 3), 3);
        check.due("tick 4 ends request 0", x.run(1), 1);
        // At tick 5 it has 3 ticks left for 4.
        check.due("tick 5", x.run(1), 0);
        check.due("hopeless", x.count(0, 6), 1);
        check.due("told(4)", x.told(4), 0);
        check.due("told(6)", x.told(6), 0);
        check.due("its front worker is free", x.atWorker(false, 1), NONE);
        check.due("wasted", x.told(8), 1);
        RetryStorm y = Storms.one(1, 4);
        y.set(0, TIMEOUT, 9);
        y.surge(0, 2, 0, 1);
        y.setSwitch(1, true);
        check.due("just enough", y.run(9), 2);
        // The front worker that is freed takes an attempt in the same step.
        RetryStorm z = Storms.one(1, 4);
        z.set(0, TIMEOUT, 8);
        z.surge(0, 3, 0, 1);
        z.set(0, ATTEMPTS, 1);
        z.setSwitch(1, true);
        z.set(1, PERIOD, 50);
        z.set(1, PHASE, 5);
        z.run(6);
        check.due("z: request 1 is gone", z.request(1, 3), NONE);
        check.due("z: request 2 is gone, too", z.request(2, 3), NONE);
        check.due("z: hopeless", z.count(0, 6), 2);
        check.due("z: request 3", z.request(3, 3), 2);
    }

    private static void backServer() {
        check.part("the back server");
        RetryStorm x = Storms.one(2, 3);
        x.surge(0, 2, 0, 1);
        x.set(1, PERIOD, 50);
        x.run(2);
        check.due("queued(true, 0)", x.queued(true, 0), 0);
        check.due("queued(true, 1)", x.queued(true, 1), 1);
        check.due("request(0, 3)", x.request(0, 3), 3);
        check.due("told(4)", x.told(4), 2);
        check.due("told(5), both are held", x.told(5), 2);
        check.due("told(6)", x.told(6), 0);
        check.due("told(9)", x.told(9), 4);
        x.run(1);
        check.due("atWorker(true, 0)", x.atWorker(true, 0), 0);
        check.due("atWorker(false, 0)", x.atWorker(false, 0), 0);
        check.due("atWorker(false, 1)", x.atWorker(false, 1), 1);
        check.due("request(0, 3)", x.request(0, 3), 4);
        check.due("request(1, 3)", x.request(1, 3), 3);
        check.due("told(9), held workers do not work", x.told(9), 5);
        check.due("request 2 is in the front queue", x.request(2, 3), 1);
        check.due("ticks 3 and 4", x.run(2), 1);
        check.due("good", x.told(7), 5);
        check.due("atWorker(true, 0)", x.atWorker(true, 0), NONE);
        check.due("atWorker(false, 0)", x.atWorker(false, 0), NONE);
        check.due("tick 5", x.run(1), 0);
        check.due("the free front worker took request 2", x.atWorker(false, 0), 2);
        check.due("the back worker took request 1", x.atWorker(true, 0), 1);
        check.due("ticks 6 and 7", x.run(2), 2);
        check.due("good", x.told(7), 12);
    }

    private static void backIsFull() {
        check.part("a full back queue");
        RetryStorm x = Storms.one(2, 3);
        x.setServer(3, 1);
        x.surge(0, 2, 0, 1);
        x.run(2);
        check.due("rejections", x.count(0, 4), 1);
        check.due("queued(true, 0)", x.queued(true, 0), 0);
        check.due("its front worker is free", x.atWorker(false, 1), NONE);
        check.due("its work is wasted", x.told(8), 2);
        check.due("window(3, 1)", x.window(3, 1), 2);
        check.due("now is tick 2: it waits until 4", x.request(1, 4), 4);
        // Displacing is for the front queue alone.
        RetryStorm y = Storms.one(2, 3);
        y.setServer(3, 1);
        y.setSwitch(0, true);
        y.surge(0, 2, 0, 1);
        y.run(2);
        check.due("queued(true, 0)", y.queued(true, 0), 0);
        check.due("request(1, 3)", y.request(1, 3), 0);
        // An attempt that has been abandoned is rejected without a failure.
        RetryStorm z = Storms.one(3, 3);
        z.setServer(3, 1);
        z.set(0, TIMEOUT, 2);
        z.set(0, ATTEMPTS, 1);
        z.surge(0, 2, 0, 1);
        z.run(3);
        check.due("z: rejections", z.count(0, 4), 0);
        check.due("z: timeouts", z.count(0, 5), 2);
        check.due("z: wasted", z.told(8), 3);
        check.due("z: queued(true, 0)", z.queued(true, 0), ABANDONED);
    }

    private static void backWorksOnAbandoned() {
        check.part("abandoned at the back server");
        RetryStorm x = Storms.one(1, 5);
        x.set(0, TIMEOUT, 3);
        x.set(0, ATTEMPTS, 1);
        x.run(4);
        check.due("atWorker(true, 0)", x.atWorker(true, 0), ABANDONED);
        check.due("atWorker(false, 0)", x.atWorker(false, 0), ABANDONED);
        check.due("pending", x.told(9), 4);
        check.due("told(1)", x.told(1), 0);
        x.run(2);
        check.due("wasted", x.told(8), 6);
        check.due("pending", x.told(9), 0);
        check.due("succeeded", x.count(0, 2), 0);
        check.due("told(5)", x.told(5), 0);
        check.due("told(6)", x.told(6), 0);
    }

    private static void worksAreThoseWhenSent() {
        check.part("works are those when it was sent");
        RetryStorm x = Storms.one(3, 2);
        x.run(1);
        x.set(0, FRONT, 1);
        x.set(0, BACK, 0);
        check.due("run(3)", x.run(3), 0);
        check.due("run(1)", x.run(1), 1);
        check.due("good", x.told(7), 5);
    }

    private static void sixteenAtOnce() {
        check.part("sixteen requests that expire and are sent again at once");
        RetryStorm x = new RetryStorm();
        x.setServer(1, 16);
        x.setSwitch(2, true);
        for (int client = 0; client < 4; client++) {
            x.set(client, PERIOD, 50);
            x.set(client, TIMEOUT, 5);
            x.set(client, FRONT, 12);
            x.surge(client, 4, 0, 1);
        }
        x.run(5);
        check.due("told(1)", x.told(1), 16);
        check.due("told(2)", x.told(2), 16);
        check.due("told(5)", x.told(5), 0);
        check.due("the first is sent at", x.request(0, 4), 7);
        check.due("the last is sent at", x.request(15, 4), 7);
        x.run(3);
        check.due("told(2)", x.told(2), 0);
        check.due("told(3)", x.told(3), 14);
        check.due("window(2, 1)", x.window(2, 1), 16);
        check.due("in the order of their numbers, the first", x.atWorker(false, 0), 0);
        check.due("in the order of their numbers, the last", x.queued(false, 13), 15);
    }

    private static void orderOfCreation() {
        check.part("clients in ascending order");
        RetryStorm x = new RetryStorm();
        for (int client = 5; client >= 0; client--) {
            x.set(client, PERIOD, 50);
            x.set(client, FRONT, 12);
        }
        x.surge(1, 2, 0, 1);
        x.run(1);
        int[] of = {0, 1, 1, 2, 3, 4, 5};
        for (int number = 0; number < of.length; number++) {
            check.due("client of " + number, x.request(number, 0), of[number]);
        }
        check.due("queued(false, 0)", x.queued(false, 0), 2);
        check.due("told(3)", x.told(3), 5);
        // Creating comes before the waiting ones are sent.
        RetryStorm y = new RetryStorm();
        y.setServer(0, 1);
        y.setServer(1, 1);
        y.set(0, PERIOD, 1);
        y.set(0, FRONT, 1);
        y.set(0, BASE, 1);
        y.surge(0, 2, 0, 1);
        y.run(2);
        check.due("the new one has the place", y.count(0, 2), 2);
        check.due("the old one was rejected twice", y.request(1, 2), 2);
        check.due("rejections", y.count(0, 4), 2);
    }
}
