/** The edges of the Description's REQUESTS, sentence by sentence. */
public final class EdgesOfRequestsTest {
    private static final int NONE = RetryStorm.NONE, ABANDONED = -8;
    private static final Check check = new Check("EdgesOfRequestsTest");

    public static void main(String[] args) {
        numbers();
        deadlines();
        deadlinesAreKept();
        sixteenLiveRequests();
        lostRequestsDoNothingElse();
        expiry();
        expiryOfALaterAttempt();
        displacing();
        displacingInAQueueOfOne();
        displacingAnAbandonedOne();
        displacingNotNeeded();
        frontWork();
        backWork();
        lastPlaceInTheBackQueue();
        answerToAnAbandonedAttempt();
        answeredAtTheLastTick();
        rejectedAsItExpires();
        withoutCancelling();
        withCancelling();
        cancellingSwitchedOnLater();
        cancellingSwitchedOffLater();
        passingAtTheFront();
        passingAfterWaiting();
        passingAtTheBack();
        passingAnAbandonedOneAtTheBack();
        theWorkerTakesTheNextOne();
        worksWhenItWasSent();
        check.end();
    }

    private static void numbers() {
        check.sentence("Requests are numbered from 0 in the order in which they are created.");
        RetryStorm x = new RetryStorm();
        Storms.burst(x, 3, 0, 2, 12, 0);
        Storms.burst(x, 1, 0, 1, 12, 0);
        Storms.burst(x, 0, 1, 1, 12, 0);
        x.run(2);
        int[] clients = {1, 3, 3, 0};
        for (int number = 0; number < clients.length; number++) {
            check.due("live(" + number + ")", x.live(number), number);
            check.due("its client", x.request(number, 0), clients[number]);
        }
        check.due("live(4)", x.live(4), NONE);
    }

    private static void deadlines() {
        check.sentence("A request that is created at tick t by a client has the deadline t + patience.");
        for (int patience = 2; patience <= 60; patience++) {
            RetryStorm x = Storms.queueOf(1, 1);
            x.set(0, Storms.PATIENCE, patience);
            x.run(2);
            check.due("the deadline", x.request(1, 1), 1 + patience);
        }
        // With the least patience the deadline comes at the end of the tick itself.
        RetryStorm x = Storms.one(2, 0);
        x.set(0, Storms.PATIENCE, 1);
        check.due("patience 1, not answered", x.run(1), 0);
        check.due("timeouts", x.count(0, 5), 1);
        check.due("failed", x.count(0, 3), 1);
        RetryStorm y = Storms.one(1, 0);
        y.set(0, Storms.PATIENCE, 1);
        check.due("patience 1, answered", y.run(1), 1);
    }

    private static void deadlinesAreKept() {
        check.sentence("Live requests keep their deadlines.");
        for (int patience = 1; patience <= 60; patience += 59) {
            RetryStorm x = Storms.one(12, 0);
            x.set(0, Storms.PATIENCE, 20);
            x.set(0, Storms.TIMEOUT, 3);
            x.run(1);
            x.set(0, Storms.PATIENCE, patience);
            check.due("the deadline", x.request(0, 1), 20);
            x.set(0, Storms.TIMEOUT, 40);
            check.due("when the attempt expires", x.request(0, 4), 3);
            x.run(5);
            check.due("sent at 3 + 2", x.request(0, 2), 2);
            check.due("the deadline", x.request(0, 1), 20);
            check.due("the next attempt expires at the deadline", x.request(0, 4), 20);
        }
    }

    /** 15 requests are live at the end of tick 1: one at the worker until tick 11, 14 in the queue. */
    private static RetryStorm fifteen() {
        RetryStorm x = Storms.queueOf(14, 16);
        x.set(4, Storms.PERIOD, 11);
        x.set(4, Storms.PHASE, 2);
        x.set(4, Storms.PATIENCE, 60);
        x.set(4, Storms.TIMEOUT, 40);
        x.set(4, Storms.BUDGET, 1);
        return x;
    }

    private static void sixteenLiveRequests() {
        check.sentence("There are at most 16 live requests; if there are 16, a request that is created is lost: it is "
            + "counted as created and as failed, gets no number");
        RetryStorm x = fifteen();
        x.run(2);
        check.due("told(1)", x.told(1), 15);
        x.surge(4, 3, 0, 1);
        x.run(1);
        check.due("told(1)", x.told(1), 16);
        check.due("the sixteenth", x.live(15), 15);
        check.due("its client", x.request(15, 0), 4);
        check.due("created", x.count(4, 0), 3);
        check.due("two were lost", x.count(4, 3), 2);
        check.due("request(16, 0)", x.request(16, 0), NONE);
        // Request 0 is answered at the end of tick 11, so that there are 15 at tick 13.
        x.run(11);
        check.due("told(1)", x.told(1), 16 - 1);
        check.due("the next number", x.request(16, 0), 4);
        check.due("created", x.count(4, 0), 4);
        check.due("lost", x.count(4, 3), 2);
    }

    private static void lostRequestsDoNothingElse() {
        check.sentence("and nothing else happens");
        RetryStorm x = fifteen();
        x.set(4, Storms.JITTER, 1);
        x.set(5, Storms.JITTER, 1);
        x.set(5, Storms.BASE, 7);
        x.set(5, Storms.TIMEOUT, 3);
        x.run(2);
        x.surge(4, 4, 0, 1);
        x.run(1);
        check.due("sent", x.count(4, 1), 1);
        check.due("told(3)", x.told(3), 15);
        check.due("rejections, timeouts, hopelessness", x.count(4, 4) + x.count(4, 5) + x.count(4, 6), 0);
        check.due("window(2, 1)", x.window(2, 1), 1);
        check.due("amplification()", x.amplification(), 100 * 16 / 19);
        // The lost ones have drawn no number: the first one drawn is that of request 0, which was abandoned at 3.
        check.due("request 0 waits until", x.request(0, 4), 3 + 1 + 16838 % 7);
    }

    private static void expiry() {
        check.sentence("the attempt expires at the tick that is now + timeout, or at the deadline, if this is "
            + "earlier.");
        int[][] cases = {{5, 6, 5}, {5, 5, 5}, {5, 4, 4}, {40, 60, 40}, {40, 41, 40}, {40, 40, 40}, {40, 39, 39}, {2, 60, 2},
            {40, 2, 2}};
        for (int[] c : cases) {
            RetryStorm x = Storms.one(12, 0);
            x.set(0, Storms.TIMEOUT, c[0]);
            x.set(0, Storms.PATIENCE, c[1]);
            x.run(1);
            check.due("timeout " + c[0] + ", patience " + c[1], x.request(0, 4), c[2]);
        }
        RetryStorm x = Storms.one(12, 0);
        x.set(0, Storms.TIMEOUT, 1);
        x.run(1);
        check.due("timeout 1 expires at once", x.count(0, 5), 1);
        check.due("it waits until 1 + 2", x.request(0, 4), 3);
    }

    private static void expiryOfALaterAttempt() {
        check.sentence("the attempt expires at the tick that is now + timeout, or at the deadline, if this is "
            + "earlier.");
        for (int patience = 9; patience <= 14; patience++) {
            RetryStorm x = Storms.one(12, 0);
            x.set(0, Storms.TIMEOUT, 5);
            x.set(0, Storms.PATIENCE, patience);
            x.run(8);
            check.due("sent at 5 + 2", x.request(0, 2), 2);
            check.due("patience " + patience, x.request(0, 4), patience < 12 ? patience : 12);
        }
    }

    /** Five requests, of which the first four fill the queue of 4; the last one comes at tick 2. */
    private static RetryStorm full(boolean displacing) {
        RetryStorm x = Storms.queueOf(4, 4);
        Storms.burst(x, 4, 2, 1, 2, 0);
        x.setSwitch(0, displacing);
        return x;
    }

    private static void displacing() {
        check.sentence("with displacing, the attempt in the queue that came first is removed and, if it has not been "
            + "abandoned, fails by rejection, and the new one is put into the queue.");
        for (int discipline = 0; discipline < 4; discipline++) {
            RetryStorm x = full(true);
            x.setDiscipline(discipline);
            x.run(3);
            check.due("rejections of the first's client", x.count(0, 4), 1);
            check.due("of the new one's", x.count(4, 4), 0);
            check.due("request 1 waits", x.request(1, 3), 0);
            check.due("until 2 + 2", x.request(1, 4), 4);
            check.due("its client has paid", x.count(0, 7), 190);
            int[] want = {2, 3, 4, 5, NONE};
            for (int i = 0; i < want.length; i++) {
                check.due("queued(false, " + i + ")", x.queued(false, i), want[i]);
            }
            check.due("told(8)", x.told(8), 0);
        }
        RetryStorm y = full(false);
        y.run(3);
        check.due("without displacing the new one is rejected", y.count(4, 4), 1);
        check.due("without displacing the first stays", y.queued(false, 0), 1);
        RetryStorm z = full(true);
        z.set(0, Storms.ATTEMPTS, 1);
        z.run(3);
        check.due("without another attempt it fails", z.count(0, 3), 1);
        check.due("request(1, 0)", z.request(1, 0), NONE);
        check.due("the new one is in the queue", z.queued(false, 3), 5);
    }

    private static void displacingInAQueueOfOne() {
        check.sentence("with displacing, the attempt in the queue that came first is removed");
        RetryStorm x = Storms.queueOf(4, 1);
        x.setSwitch(0, true);
        x.run(2);
        check.due("rejections", x.count(0, 4), 3);
        check.due("queued(false, 0)", x.queued(false, 0), 4);
        check.due("queued(false, 1)", x.queued(false, 1), NONE);
        // At tick 3 the three that wait are sent in their order, and each displaces the one before.
        x.run(2);
        check.due("rejections", x.count(0, 4), 6);
        check.due("queued(false, 0)", x.queued(false, 0), 3);
        check.due("request 4 waits now", x.request(4, 4), 3 + 2);
        check.due("request 2 waits longer", x.request(2, 4), 3 + 4);
    }

    private static void displacingAnAbandonedOne() {
        check.sentence("if it has not been abandoned, fails by rejection");
        RetryStorm x = full(true);
        x.set(0, Storms.TIMEOUT, 1);
        x.set(0, Storms.BASE, 3);
        x.run(3);
        check.due("timeouts", x.count(0, 5), 4);
        check.due("rejections", x.count(0, 4), 0);
        check.due("request 1 goes on waiting", x.request(1, 4), 2 + 3);
        check.due("its client has paid once each", x.count(0, 7), 200 - 40);
        check.due("queued(false, 2)", x.queued(false, 2), ABANDONED);
        check.due("queued(false, 3)", x.queued(false, 3), 5);
        check.due("queued(false, 4)", x.queued(false, 4), NONE);
    }

    private static void displacingNotNeeded() {
        check.sentence("If the queue is not full, the attempt is put into it.");
        RetryStorm x = Storms.queueOf(3, 4);
        Storms.burst(x, 4, 2, 1, 2, 0);
        x.setSwitch(0, true);
        x.run(3);
        check.due("nobody is rejected", x.count(0, 4) + x.count(4, 4), 0);
        check.due("the first stays", x.queued(false, 0), 1);
        check.due("the last place is used", x.queued(false, 3), 4);
    }

    private static void frontWork() {
        check.sentence("An attempt that is taken by a front worker is worked on for as many ticks as the front work "
            + "of its client says. Then, if its back work is 0, it is answered.");
        for (int work = 1; work <= 12; work++) {
            RetryStorm x = Storms.one(work, 0);
            for (int t = 1; t < work; t++) {
                check.due("tick " + t + " of " + work, x.run(1), 0);
                check.due("told(9)", x.told(9), t);
            }
            check.due("the last tick of " + work, x.run(1), 1);
            check.due("told(7)", x.told(7), work);
            check.due("told(5)", x.told(5), 0);
        }
    }

    private static void backWork() {
        check.sentence("Otherwise it calls the back server, and its front worker is held until that has ended:");
        check.sentence("it is worked on by a back worker for as many ticks as the back work of its client says, and is "
            + "answered then.");
        for (int work = 1; work <= 12; work++) {
            RetryStorm x = Storms.one(2, work);
            x.run(2);
            check.due("it has called", x.request(0, 3), 3);
            check.due("its front worker is held", x.atWorker(false, 0), 0);
            for (int t = 1; t < work; t++) {
                check.due("tick " + t + " of " + work, x.run(1), 0);
                check.due("told(9)", x.told(9), 2 + t);
                check.due("its front worker is held", x.atWorker(false, 0), 0);
            }
            check.due("the last tick of " + work, x.run(1), 1);
            check.due("told(7)", x.told(7), 2 + work);
            check.due("both workers are free", x.told(5) + x.told(6), 0);
        }
    }

    private static void lastPlaceInTheBackQueue() {
        check.sentence("it is put into the queue of the back server, or, if this is full, it is removed");
        for (int others = 1; others <= 2; others++) {
            RetryStorm x = new RetryStorm();
            x.setServer(0, 4);
            x.setServer(3, 2);
            // One is at the back worker at tick 1 and one or two are in the queue when request 3's work ends.
            Storms.burst(x, 0, 0, 1 + others, 1, 12);
            Storms.burst(x, 1, 0, 1, 3, 1);
            x.setServer(3, 4);
            x.run(2);
            check.due("told(4)", x.told(4), others);
            x.setServer(3, 2);
            x.run(1);
            check.due("with " + others + " of 2: rejections", x.count(1, 4), others - 1);
            check.due("told(4)", x.told(4), 2);
            check.due("where it is", x.request(1 + others, 3), others == 2 ? 0 : 3);
            check.due("its front worker", x.atWorker(false, 1 + others), others == 2 ? NONE : 2);
            check.due("told(8)", x.told(8), others == 2 ? 3 : 0);
        }
    }

    private static void answerToAnAbandonedAttempt() {
        check.sentence("An answer to an attempt that has not been abandoned makes its request succeed.");
        check.sentence("the servers go on with it as if nothing had happened, but an answer comes to nothing.");
        RetryStorm x = Storms.one(6, 0);
        x.set(0, Storms.TIMEOUT, 3);
        x.set(0, Storms.CAP, 1);
        x.run(5);
        check.due("the first attempt", x.atWorker(false, 0), ABANDONED);
        check.due("the second attempt", x.atWorker(false, 1), 0);
        check.due("the first one is answered", x.run(1), 0);
        check.due("its worker is free", x.atWorker(false, 0), NONE);
        check.due("the second goes on", x.atWorker(false, 1), 0);
        check.due("the request lives", x.request(0, 3), 2);
        check.due("told(8)", x.told(8), 6);
        check.due("told(7)", x.told(7), 0);
        x.set(0, Storms.TIMEOUT, 40);
        x.run(3);
        check.due("the third attempt", x.request(0, 2), 3);
        check.due("told(8)", x.told(8), 6);
        check.due("it is answered at the end of tick 13", x.run(5), 1);
        check.due("told(7)", x.told(7), 6);
        check.due("told(8)", x.told(8), 12);
        check.due("succeededAt(0, 3)", x.succeededAt(0, 3), 1);
    }

    private static void answeredAtTheLastTick() {
        check.sentence("An attempt that has not been answered or failed when the tick at which it expires begins is "
            + "abandoned by its client (see TICKS): it fails by timeout.");
        for (int frontWork = 1; frontWork <= 12; frontWork++) {
            for (int backWork = 0; backWork <= 12; backWork += 6) {
                RetryStorm x = Storms.one(frontWork, backWork);
                x.set(0, Storms.TIMEOUT, frontWork + backWork);
                check.due("as many ticks as the work", x.run(frontWork + backWork), 1);
                check.due("timeouts", x.count(0, 5), 0);
                RetryStorm y = Storms.one(frontWork, backWork);
                y.set(0, Storms.PATIENCE, Math.max(1, frontWork + backWork - 1));
                check.due("one tick fewer", y.run(frontWork + backWork), frontWork + backWork == 1 ? 1 : 0);
                check.due("timeouts", y.count(0, 5), frontWork + backWork == 1 ? 0 : 1);
            }
        }
    }

    private static void rejectedAsItExpires() {
        check.sentence("An attempt that has not been answered or failed when the tick at which it expires begins is "
            + "abandoned");
        for (int timeout = 2; timeout <= 3; timeout++) {
            RetryStorm x = new RetryStorm();
            x.setServer(0, 3);
            x.setServer(3, 1);
            Storms.burst(x, 0, 0, 1, 1, 12);
            Storms.burst(x, 1, 0, 1, 2, 12);
            Storms.burst(x, 2, 0, 1, 3, 1);
            x.set(2, Storms.TIMEOUT, timeout);
            x.run(3);
            check.due("timeout " + timeout + ", rejections", x.count(2, 4), timeout == 3 ? 1 : 0);
            check.due("timeouts", x.count(2, 5), timeout == 3 ? 0 : 1);
            check.due("told(8)", x.told(8), 3);
        }
    }

    /** At tick 4 there is an attempt at each of the four places; all expire at tick 5. */
    private static RetryStorm everywhere(boolean cancelling) {
        RetryStorm x = Storms.everyPlace();
        x.setSwitch(2, cancelling);
        for (int client = 0; client < 4; client++) {
            x.set(client, Storms.ATTEMPTS, 1);
        }
        x.run(2);
        int[] places = {4, 3, 2, 1};
        for (int number = 0; number < 4; number++) {
            check.due("where request " + number + " is", x.request(number, 3), places[number]);
        }
        x.run(1);
        return x;
    }

    private static void withoutCancelling() {
        check.sentence("Without cancelling, the servers go on with it as if nothing had happened");
        RetryStorm x = everywhere(false);
        check.due("atWorker(true, 0)", x.atWorker(true, 0), ABANDONED);
        check.due("atWorker(false, 0)", x.atWorker(false, 0), ABANDONED);
        check.due("queued(true, 0)", x.queued(true, 0), ABANDONED);
        check.due("atWorker(false, 1)", x.atWorker(false, 1), ABANDONED);
        check.due("atWorker(false, 2)", x.atWorker(false, 2), ABANDONED);
        check.due("queued(false, 0)", x.queued(false, 0), ABANDONED);
        check.due("told(1)", x.told(1), 0);
        check.due("pending", x.told(9), 1 + 4 + 1 + 5);
        check.due("wasted", x.told(8), 0);
        // The back worker ends the first at tick 12 and the second at 24; the front server the third and then the fourth.
        check.due("no success", x.run(40), 0);
        check.due("pending", x.told(9), 0);
        check.due("wasted", x.told(8), 13 + 13 + 12 + 12);
    }

    private static void withCancelling() {
        check.sentence("With cancelling, it is removed from the queue or the workers where it is.");
        RetryStorm x = everywhere(true);
        for (int worker = 0; worker < 4; worker++) {
            check.due("atWorker(true, " + worker + ")", x.atWorker(true, worker), NONE);
            check.due("atWorker(false, " + worker + ")", x.atWorker(false, worker), NONE);
        }
        check.due("queued(true, 0)", x.queued(true, 0), NONE);
        check.due("queued(false, 0)", x.queued(false, 0), NONE);
        for (int what = 3; what <= 6; what++) {
            check.due("told(" + what + ")", x.told(what), 0);
        }
        check.due("pending", x.told(9), 0);
        check.due("wasted", x.told(8), 1 + 4 + 1 + 5);
        check.due("window(3, 1)", x.window(3, 1), 1 + 4 + 1 + 5);
        for (int client = 0; client < 4; client++) {
            check.due("one failure", x.count(client, 5), 1);
            check.due("no other", x.count(client, 4) + x.count(client, 6), 0);
        }
    }

    private static void cancellingSwitchedOnLater() {
        check.sentence("With cancelling, it is removed from the queue or the workers where it is.");
        // What counts is the switch when an attempt is abandoned: those of tick 5 stay.
        RetryStorm x = everywhere(false);
        x.setSwitch(2, true);
        for (int ticks = 0; ticks <= 1; ticks++) {
            check.due("atWorker(true, 0)", x.atWorker(true, 0), ABANDONED);
            check.due("atWorker(false, 1)", x.atWorker(false, 1), ABANDONED);
            check.due("atWorker(false, 2)", x.atWorker(false, 2), ABANDONED);
            check.due("queued(true, 0)", x.queued(true, 0), ABANDONED);
            check.due("queued(false, 0)", x.queued(false, 0), ABANDONED);
            check.due("pending", x.told(9), 1 + 4 + 1 + 5 + 2 * ticks);
            check.due("wasted", x.told(8), 0);
            x.run(1);
        }
        x.run(39);
        check.due("all have been worked on to their ends", x.told(8), 13 + 13 + 12 + 12);
        check.due("pending", x.told(9), 0);
    }

    private static void cancellingSwitchedOffLater() {
        check.sentence("Without cancelling, the servers go on with it as if nothing had happened");
        RetryStorm x = Storms.one(12, 0);
        x.set(0, Storms.TIMEOUT, 3);
        x.setSwitch(2, true);
        x.run(3);
        check.due("the first attempt is removed", x.atWorker(false, 0), NONE);
        check.due("wasted", x.told(8), 3);
        x.setSwitch(2, false);
        x.run(5);
        check.due("the second, sent at 5, stays", x.atWorker(false, 0), ABANDONED);
        check.due("wasted", x.told(8), 3);
        check.due("pending", x.told(9), 3);
        check.due("timeouts", x.count(0, 5), 2);
    }

    private static void passingAtTheFront() {
        check.sentence("a front worker that takes an attempt first looks whether the ticks that are left until it "
            + "expires are fewer than the front work and the back work of its client together");
        for (int frontWork = 1; frontWork <= 12; frontWork++) {
            for (int backWork = 0; backWork <= 12; backWork++) {
                for (int less = 0; less <= 1; less++) {
                    RetryStorm x = Storms.one(frontWork, backWork);
                    int timeout = frontWork + backWork - less;
                    if (timeout == 0) {
                        continue;
                    }
                    x.set(0, Storms.TIMEOUT, timeout);
                    x.setSwitch(1, true);
                    x.run(1);
                    String call = timeout + " ticks for " + frontWork + " + " + backWork;
                    check.due(call, x.count(0, 6), less);
                    check.due("the work begins", x.told(7) + x.told(9), 1 - less);
                    check.due("wasted", x.told(8), 0);
                    check.due("timeouts", x.count(0, 5), 0);
                }
            }
        }
    }

    private static void passingAfterWaiting() {
        check.sentence("the ticks that are left until it expires");
        for (int timeout = 12; timeout <= 14; timeout++) {
            RetryStorm x = Storms.queueOf(1, 1);
            x.set(0, Storms.TIMEOUT, timeout);
            x.setSwitch(1, true);
            x.run(13);
            // It was sent at tick 1 and needs 2 ticks from tick 12 on.
            check.due("timeout " + timeout, x.count(0, 6), timeout == 12 ? 1 : 0);
            check.due("the worker has it", x.atWorker(false, 0), timeout == 12 ? NONE : 1);
        }
    }

    private static void passingAtTheBack() {
        check.sentence("a back worker whether they are fewer than the back work.");
        check.sentence("If so, the attempt is removed (and at the back server, its front worker is free) and fails "
            + "by hopelessness");
        for (int timeout = 8; timeout <= 9; timeout++) {
            RetryStorm x = Storms.one(1, 4);
            x.surge(0, 2, 0, 1);
            x.set(0, Storms.TIMEOUT, timeout);
            x.setSwitch(1, true);
            x.run(5);
            check.due("request 1 is in the back queue", x.request(1, 3), 3);
            x.run(1);
            // The back worker takes it at tick 5: 4 ticks are enough, 3 are not.
            boolean hopeless = timeout == 8;
            check.due("timeout " + timeout + ", hopelessness", x.count(0, 6), hopeless ? 1 : 0);
            check.due("the back worker", x.atWorker(true, 0), hopeless ? NONE : 1);
            check.due("the front worker", x.atWorker(false, 1), hopeless ? NONE : 1);
            check.due("told(4)", x.told(4), 0);
            check.due("wasted", x.told(8), hopeless ? 1 : 0);
        }
    }

    private static void passingAnAbandonedOneAtTheBack() {
        check.sentence("and fails by hopelessness, unless it has been abandoned;");
        check.sentence("(An attempt that has been abandoned has no ticks left.)");
        // Request 1 is abandoned at tick 5 in the back queue; request 2 has 1 tick of back work and many left.
        RetryStorm x = new RetryStorm();
        x.setServer(0, 3);
        x.setSwitch(1, true);
        Storms.burst(x, 0, 0, 1, 1, 6);
        Storms.burst(x, 1, 0, 1, 1, 1);
        Storms.burst(x, 2, 0, 1, 2, 12);
        x.set(1, Storms.TIMEOUT, 5);
        x.set(1, Storms.ATTEMPTS, 1);
        x.run(7);
        check.due("queued(true, 0)", x.queued(true, 0), ABANDONED);
        check.due("queued(true, 1)", x.queued(true, 1), 2);
        x.run(1);
        check.due("the back worker takes the next one", x.atWorker(true, 0), 2);
        check.due("the abandoned one's front worker is free", x.atWorker(false, 1), NONE);
        check.due("it is no failure again", x.count(1, 6), 0);
        check.due("its work is wasted", x.told(8), 1);
        RetryStorm y = Storms.queueOf(2, 16);
        y.set(0, Storms.TIMEOUT, 1);
        y.set(0, Storms.ATTEMPTS, 1);
        y.setSwitch(1, true);
        y.run(13);
        check.due("at the front: hopelessness", y.count(0, 6), 0);
        check.due("at the front: the queue", y.told(3), 0);
        check.due("at the front: the worker", y.atWorker(false, 0), NONE);
    }

    private static void theWorkerTakesTheNextOne() {
        check.sentence("and the worker takes the next one.");
        // The requests 1 to 4 and 5 to 8 have too few ticks at tick 12, the requests 9 and 10 have enough.
        for (int discipline = 0; discipline < 4; discipline++) {
            RetryStorm x = Storms.queueOf(10, 16);
            x.set(0, Storms.TIMEOUT, 12);
            x.set(1, Storms.TIMEOUT, 12);
            x.set(0, Storms.BASE, 9);
            x.set(1, Storms.BASE, 9);
            x.setSwitch(1, true);
            x.setDiscipline(discipline);
            x.run(13);
            // The disciplines 1 and 2 (10 of 16 are more than half) take the last one.
            boolean last = discipline == 1 || discipline == 2;
            check.due("discipline " + discipline + " takes", x.atWorker(false, 0), last ? 10 : 9);
            check.due("hopelessness", x.count(0, 6) + x.count(1, 6), last ? 0 : 8);
            check.due("the hopeless ones wait", x.told(2), 8);
            check.due("those that the worker did not come to are still there", x.told(3), last ? 9 : 1);
        }
        RetryStorm y = Storms.queueOf(15, 16);
        for (int client = 0; client < 4; client++) {
            y.set(client, Storms.TIMEOUT, 12);
            y.set(client, Storms.ATTEMPTS, 1);
        }
        y.setSwitch(1, true);
        y.run(13);
        check.due("none is left", y.atWorker(false, 0), NONE);
        check.due("the queue is empty", y.told(3), 0);
        check.due("all have failed", y.told(1), 0);
        check.due("by hopelessness", y.count(0, 6) + y.count(1, 6) + y.count(2, 6) + y.count(3, 6), 15);
    }

    private static void worksWhenItWasSent() {
        check.sentence("The works of an attempt are those that its client had when it was sent.");
        RetryStorm x = Storms.queueOf(1, 1);
        x.set(0, Storms.BACK, 3);
        x.run(2);
        x.set(0, Storms.FRONT, 12);
        x.set(0, Storms.BACK, 0);
        check.due("request 0", x.run(10), 1);
        check.due("2 and 3 ticks are not over", x.run(4), 0);
        check.due("2 and 3 ticks", x.run(1), 1);
        check.due("told(7)", x.told(7), 12 + 5);
        // A later attempt has the works of then.
        RetryStorm y = Storms.one(12, 0);
        y.set(0, Storms.TIMEOUT, 3);
        y.run(3);
        y.set(0, Storms.FRONT, 1);
        check.due("sent at 5, answered at its end", y.run(3), 1);
        check.due("told(7)", y.told(7), 1);
        // Passing deadlines looks at the works of then, too.
        RetryStorm z = Storms.queueOf(1, 1);
        z.set(0, Storms.TIMEOUT, 13);
        z.run(2);
        z.set(0, Storms.FRONT, 12);
        z.setSwitch(1, true);
        z.run(11);
        check.due("hopelessness", z.count(0, 6), 0);
    }
}
