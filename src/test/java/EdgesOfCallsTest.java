/** The least and the most of each argument, refused calls, and what there is not: sentence by sentence. */
public final class EdgesOfCallsTest {
    private static final int BAD = RetryStorm.BAD, STATE = RetryStorm.STATE, NONE = RetryStorm.NONE;
    private static final int[] LEAST = {0, 0, 1, 1, 1, 1, 1, 0, 1, 0, 0, 0};
    private static final int[] MOST = {50, 50, 60, 6, 40, 16, 64, 3, 12, 12, 20, 10};
    private static final Check check = new Check("EdgesOfCallsTest");

    private interface Call {
        int answer(RetryStorm x, int v);
    }

    public static void main(String[] args) {
        theLastCall();
        rangesOfSetting();
        rangesOfServers();
        rangesOfSurge();
        rangesOfRunning();
        rangesOfCounts();
        rangesOfPlaces();
        rangesOfHistory();
        valuesBefore();
        badBeforeState();
        refusalsChangeNothing();
        noneOnlyWithoutAnError();
        workersInUse();
        backWorkersInUse();
        queueInUse();
        backQueueInUse();
        endOfASurge();
        liveRequests();
        requestNumbers();
        placesInQueues();
        abandonedOnes();
        workersThatAreNot();
        whereARequestIs();
        check.end();
    }

    /** 64 ticks have been done, attempts are everywhere, all four jitters draw, and four states are remembered. */
    private static RetryStorm busy() {
        RetryStorm x = new RetryStorm();
        x.setServer(0, 3);
        for (int client = 0; client < 4; client++) {
            x.set(client, 0, client + 1);
            x.set(client, 4, 6);
            x.set(client, 7, client);
            x.set(client, 8, 3);
            x.set(client, 9, 2 * client);
        }
        x.surge(2, 3, 40, 9);
        x.run(60);
        x.run(4);
        return x;
    }

    private static void theLastCall() {
        check.sentence("An object is used for at most 512 calls after it has been made");
        RetryStorm x = new RetryStorm();
        x.set(0, 0, 50);
        for (int call = 2; call < 512; call++) {
            x.run(60);
        }
        check.due("the 512th call", x.count(0, 0), 510 * 60 / 50);
        RetryStorm y = new RetryStorm();
        for (int call = 1; call < 512; call++) {
            y.run(60);
        }
        check.due("the 512th call", y.told(0), 511 * 60);
    }

    /** Each value of the range is taken (by a new object and a busy one), and none beside it. */
    private static void range(int least, int most, Call call) {
        RetryStorm idle = new RetryStorm();
        RetryStorm x = busy();
        for (int v = least; v <= most; v++) {
            check.holds(v + " is in range", call.answer(idle, v) != BAD && call.answer(x, v) != BAD);
        }
        long before = x.digest();
        int[] outside = {least - 1, most + 1, least - 256, least + 256, least - 65536, least + 65536,
            Integer.MIN_VALUE, Integer.MIN_VALUE + least, Integer.MAX_VALUE, NONE, -8, STATE};
        for (int v : outside) {
            check.due("the answer for " + v, call.answer(x, v), BAD);
        }
        check.due("digest()", x.digest(), before);
    }

    private static void rangesOfSetting() {
        check.sentence("There are 6 clients, 0 to 5.");
        range(0, 5, (x, v) -> x.set(v, 1, 1));
        range(0, 5, (x, v) -> x.property(v, 1));
        check.sentence("## Promise 2:", "`what`: the number of the property, 0 to 11");
        range(0, 11, (x, v) -> x.set(5, v, 1));
        check.sentence("0 period (0 to 50; 0), 1 phase (0 to 50; 0), 2 patience (1 to 60; 20), 3 attempts (1 to 6; 3), "
            + "4 timeout (1 to 40; 10), 5 base (1 to 16; 2), 6 cap (1 to 64; 16), 7 jitter (0 to 3; 0), "
            + "8 front work (1 to 12; 2), 9 back work (0 to 12; 0), 10 budget (0 to 20; 20), 11 refund (0 to 10; 10).");
        for (int what = 0; what < 12; what++) {
            int property = what;
            range(LEAST[what], MOST[what], (x, v) -> x.set(3, property, v));
        }
        check.sentence("## Promise 3:", "Returns the value; BAD if an argument is out of range.");
        range(0, 11, (x, v) -> x.property(5, v));
    }

    private static void rangesOfServers() {
        check.sentence("## Promise 4:", "0 for the front workers, 1 for the capacity of the front queue, 2 for the "
            + "back workers, 3 for the capacity of the back queue");
        range(0, 3, (x, v) -> x.setServer(v, 4));
        check.sentence("The front server has workers (1 to 4; 2 at first)");
        range(1, 4, (x, v) -> x.setServer(0, v));
        check.sentence("and a queue of some capacity (1 to 16; 8)");
        range(1, 16, (x, v) -> x.setServer(1, v));
        check.sentence("the back server has workers (1 to 4; 1)");
        range(1, 4, (x, v) -> x.setServer(2, v));
        check.sentence("and a queue of some capacity (1 to 16; 4)");
        range(1, 16, (x, v) -> x.setServer(3, v));
        check.sentence("## Promise 5:", "`d`: the discipline, 0 to 3");
        range(0, 3, (x, v) -> x.setDiscipline(v));
        check.sentence("## Promise 6:", "`which`: the switch, 0 to 2");
        range(0, 2, (x, v) -> x.setSwitch(v, true));
        range(0, 2, (x, v) -> x.setSwitch(v, false));
    }

    private static void rangesOfSurge() {
        check.sentence("## Promise 7:", "`client`: the client, 0 to 5");
        range(0, 5, (x, v) -> x.surge(v, 1, 0, 1));
        check.sentence("## Promise 7:", "`factor`: the factor, 1 to 4");
        range(1, 4, (x, v) -> x.surge(5, v, 0, 1));
        check.sentence("## Promise 7:", "`from`: the number of ticks from now to its first tick, 0 to 100");
        range(0, 100, (x, v) -> x.surge(5, 1, v, 1));
        check.sentence("## Promise 7:", "`length`: the number of its ticks, 1 to 100");
        range(1, 100, (x, v) -> x.surge(5, 1, 0, v));
    }

    private static void rangesOfRunning() {
        check.sentence("## Promise 8:", "`ticks`: the number of ticks, 1 to 60");
        range(1, 60, (x, v) -> x.run(v));
        check.sentence("## Promise 9:", "`ticks`: the number of ticks, 1 to 60");
        range(1, 60, (x, v) -> x.ifRun(v, 1));
        check.sentence("## Promise 9:", "`discipline`: the discipline, 0 to 3");
        range(0, 3, (x, v) -> x.ifRun(60, v));
        check.sentence("## Promise 10:", "`ticks`: the number of ticks, 1 to 15");
        range(1, 15, (x, v) -> x.bestDiscipline(v));
    }

    private static void rangesOfCounts() {
        check.sentence("## Promise 11:", "Returns the number; BAD if client or what is out of range.");
        range(0, 5, (x, v) -> x.count(v, 7));
        range(0, 7, (x, v) -> x.count(5, v));
        check.sentence("## Promise 12:", "`attempt`: the number of the attempt, 1 to 6");
        range(0, 5, (x, v) -> x.succeededAt(v, 1));
        range(1, 6, (x, v) -> x.succeededAt(5, v));
        check.sentence("## Promise 13:", "Returns the number; BAD if what is not 0 to 12.");
        range(0, 12, (x, v) -> x.told(v));
    }

    private static void rangesOfPlaces() {
        check.sentence("## Promise 15:", "BAD if what is not 0 to 4");
        range(0, 4, (x, v) -> x.request(x.live(0), v));
        check.sentence("## Promise 17:", "BAD if worker is out of range");
        range(0, 3, (x, v) -> x.atWorker(false, v));
        range(0, 3, (x, v) -> x.atWorker(true, v));
    }

    private static void rangesOfHistory() {
        check.sentence("## Promise 18:", "BAD if what or n is out of range");
        range(0, 3, (x, v) -> x.window(v, 1));
        range(1, 64, (x, v) -> x.window(0, v));
        check.sentence("## Promise 19:", "`limit`: the limit, 0 to 16");
        range(0, 16, (x, v) -> x.quiet(v));
        check.sentence("## Promise 20:", "BAD if client or limit is out of range");
        range(0, 5, (x, v) -> x.recovery(v, 16));
        range(0, 16, (x, v) -> x.recovery(2, v));
    }

    private static void valuesBefore() {
        check.sentence("## Promise 2:", "Returns the value before;");
        RetryStorm x = new RetryStorm();
        int[] first = {0, 0, 20, 3, 10, 2, 16, 0, 2, 0, 20, 10};
        for (int what = 0; what < 12; what++) {
            check.due("the least of property " + what, x.set(4, what, LEAST[what]), first[what]);
            check.due("the most of property " + what, x.set(4, what, MOST[what]), LEAST[what]);
            check.due("the most of property " + what + " again", x.set(4, what, MOST[what]), MOST[what]);
            check.due("property(4, " + what + ")", x.property(4, what), MOST[what]);
            check.due("property(5, " + what + ")", x.property(5, what), first[what]);
        }
        check.sentence("## Promise 4:", "Returns the value before;");
        int[] servers = {2, 8, 1, 4};
        for (int what = 0; what < 4; what++) {
            check.due("the least of " + what, x.setServer(what, 1), servers[what]);
            check.due("the most of " + what, x.setServer(what, what % 2 == 0 ? 4 : 16), 1);
            check.due("2 of " + what, x.setServer(what, 2), what % 2 == 0 ? 4 : 16);
        }
        check.sentence("## Promise 5:", "Returns the discipline before;");
        check.due("setDiscipline(3)", x.setDiscipline(3), 0);
        check.due("setDiscipline(0)", x.setDiscipline(0), 3);
        check.sentence("## Promise 6:", "Returns 1 if it was on before, otherwise 0;");
        for (int which = 0; which < 3; which++) {
            check.due("off to on", x.setSwitch(which, true), 0);
            check.due("on to on", x.setSwitch(which, true), 1);
            check.due("on to off", x.setSwitch(which, false), 1);
            check.due("off to off", x.setSwitch(which, false), 0);
        }
    }

    /** All front workers are held, two attempts are at back workers, two in the back queue, three in the front queue. */
    private static RetryStorm inUse() {
        RetryStorm x = new RetryStorm();
        x.setServer(0, 4);
        x.setServer(2, 2);
        Storms.burst(x, 0, 0, 4, 1, 12);
        Storms.burst(x, 1, 1, 3, 12, 0);
        x.run(2);
        return x;
    }

    private static void badBeforeState() {
        check.sentence("If both apply to a call, BAD is returned.");
        RetryStorm x = inUse();
        for (int what = 0; what < 4; what++) {
            check.due("setServer(" + what + ", 1)", x.setServer(what, 1), STATE);
            check.due("setServer(" + what + ", 0)", x.setServer(what, 0), BAD);
            check.due("setServer(" + what + ", -1)", x.setServer(what, -1), BAD);
            check.due("setServer(" + what + ", MIN)", x.setServer(what, Integer.MIN_VALUE), BAD);
        }
        check.due("window(0, 64)", x.window(0, 64), STATE);
        check.due("window(0, 65)", x.window(0, 65), BAD);
        check.due("window(-1, 64)", x.window(-1, 64), BAD);
        check.due("window(4, 64)", x.window(4, 64), BAD);
    }

    private static final Call[] REFUSED = {
        (x, v) -> x.set(6, 0, 1), (x, v) -> x.set(0, 12, 1), (x, v) -> x.set(0, 10, 21), (x, v) -> x.setServer(4, 1),
        (x, v) -> x.setServer(2, 5), (x, v) -> x.setDiscipline(4), (x, v) -> x.setSwitch(3, true),
        (x, v) -> x.surge(6, 1, 0, 1), (x, v) -> x.surge(2, 5, 0, 1), (x, v) -> x.surge(2, 1, 101, 1),
        (x, v) -> x.surge(2, 1, 0, 101), (x, v) -> x.run(0), (x, v) -> x.run(61), (x, v) -> x.ifRun(61, 0),
        (x, v) -> x.ifRun(1, 4), (x, v) -> x.bestDiscipline(16), (x, v) -> x.count(0, 8),
        (x, v) -> x.succeededAt(0, 7), (x, v) -> x.told(13), (x, v) -> x.live(-1), (x, v) -> x.request(0, 5),
        (x, v) -> x.queued(false, -1), (x, v) -> x.atWorker(true, 4), (x, v) -> x.window(4, 1),
        (x, v) -> x.window(0, 65), (x, v) -> x.quiet(17), (x, v) -> x.recovery(0, 17)};

    private static void refusalsChangeNothing() {
        check.sentence("A call that returns an error code changes nothing.");
        RetryStorm x = busy();
        RetryStorm y = busy();
        for (Call call : REFUSED) {
            check.due("the refused call", call.answer(x, 0), BAD);
        }
        check.due("digest()", x.digest(), y.digest());
        check.due("recovery(2, 8)", x.recovery(2, 8), y.recovery(2, 8));
        // What is not told (the numbers drawn, the switches, the surges) is seen when they go on.
        check.due("run(30)", x.run(30), y.run(30));
        check.due("digest() later", x.digest(), y.digest());
        for (int i = 0; i < 5; i++) {
            check.due("undo()", x.undo(), y.undo());
            check.due("digest() after undo()", x.digest(), y.digest());
        }
        RetryStorm z = inUse();
        long before = z.digest();
        for (int what = 0; what < 4; what++) {
            check.due("setServer(" + what + ", 1)", z.setServer(what, 1), STATE);
        }
        check.due("window(3, 3)", z.window(3, 3), STATE);
        check.due("digest() after STATE", z.digest(), before);
        check.due("undo() is of the run", z.undo(), 3);
        check.due("told(0)", z.told(0), 0);
        RetryStorm w = new RetryStorm();
        check.due("undo()", w.undo(), STATE);
        check.due("digest() after undo()", w.digest(), new RetryStorm().digest());
    }

    private static void noneOnlyWithoutAnError() {
        check.sentence("it means that there is no such value, and is returned only if no error code applies.");
        RetryStorm x = new RetryStorm();
        for (int what = 0; what <= 4; what++) {
            check.due("request(99, " + what + ")", x.request(99, what), NONE);
        }
        check.due("request(99, 5)", x.request(99, 5), BAD);
        check.due("request(99, -1)", x.request(99, -1), BAD);
        check.due("request(-1, 5)", x.request(-1, 5), BAD);
        check.due("live(0)", x.live(0), NONE);
        check.due("live(-1)", x.live(-1), BAD);
        for (boolean back : new boolean[] {false, true}) {
            check.due("queued(" + back + ", 0)", x.queued(back, 0), NONE);
            check.due("queued(" + back + ", -1)", x.queued(back, -1), BAD);
            check.due("atWorker(" + back + ", 3)", x.atWorker(back, 3), NONE);
            check.due("atWorker(" + back + ", 4)", x.atWorker(back, 4), BAD);
            check.due("atWorker(" + back + ", -1)", x.atWorker(back, -1), BAD);
        }
        check.due("recovery(0, 16)", x.recovery(0, 16), NONE);
        check.due("recovery(0, 17)", x.recovery(0, 17), BAD);
        check.due("recovery(0, -1)", x.recovery(0, -1), BAD);
        check.due("recovery(6, 0)", x.recovery(6, 0), BAD);
    }

    /** Of four front workers (and four back workers, if there is back work) only this one still has an attempt. */
    private static RetryStorm onlyWorker(int worker, boolean back) {
        RetryStorm x = new RetryStorm();
        x.setServer(0, 4);
        x.setServer(2, 4);
        for (int client = 0; client < 4; client++) {
            int work = client == worker ? 12 : 1;
            Storms.burst(x, client, 0, 1, back ? 1 : work, back ? work : 0);
        }
        x.run(back ? 2 : 1);
        return x;
    }

    private static void workersInUse() {
        check.sentence("STATE if a worker with a number of v or more has an attempt");
        for (int worker = 0; worker < 4; worker++) {
            for (int v = 1; v <= 4; v++) {
                RetryStorm x = onlyWorker(worker, false);
                int want = worker >= v ? STATE : 4;
                check.due("worker " + worker + ": setServer(0, " + v + ")", x.setServer(0, v), want);
                check.due("setServer(2, " + v + ")", x.setServer(2, v), 4);
            }
        }
    }

    private static void backWorkersInUse() {
        check.sentence("STATE if a worker with a number of v or more has an attempt");
        for (int worker = 0; worker < 4; worker++) {
            for (int v = 1; v <= 4; v++) {
                RetryStorm x = onlyWorker(worker, true);
                check.due("told(6)", x.told(6), 1);
                int want = worker >= v ? STATE : 4;
                check.due("back worker " + worker + ": setServer(2, " + v + ")", x.setServer(2, v), want);
                check.due("the front worker is held: setServer(0, " + v + ")", x.setServer(0, v), want);
            }
        }
    }

    private static void queueInUse() {
        check.sentence("or the queue is longer than v.");
        for (int length = 0; length <= 15; length++) {
            RetryStorm x = Storms.queueOf(length, 16);
            x.run(2);
            check.due("told(3)", x.told(3), length);
            for (int v = 1; v <= 16; v++) {
                int want = length > v ? STATE : 16;
                check.due(length + " in the queue: setServer(1, " + v + ")", x.setServer(1, v), want);
                check.due("setServer(3, " + v + ")", x.setServer(3, v), v == 1 ? 4 : v - 1);
                x.setServer(1, 16);
            }
        }
    }

    private static void backQueueInUse() {
        check.sentence("or the queue is longer than v.");
        for (int length = 0; length <= 4; length++) {
            for (int v = 1; v <= 16; v++) {
                RetryStorm x = new RetryStorm();
                x.setServer(0, 4);
                if (length > 0) {
                    Storms.burst(x, 0, 0, length, 1, 12);
                }
                x.run(1);
                check.due("told(4)", x.told(4), length);
                int want = length > v ? STATE : 4;
                check.due(length + " in the back queue: setServer(3, " + v + ")", x.setServer(3, v), want);
                check.due("setServer(1, " + v + ")", x.setServer(1, v), 8);
            }
        }
    }

    private static void endOfASurge() {
        check.sentence("Returns the tick that is its end; BAD if an argument is out of range.");
        RetryStorm x = new RetryStorm();
        check.due("the earliest end", x.surge(0, 1, 0, 1), 1);
        check.due("the latest end", x.surge(0, 1, 100, 100), 200);
        x.run(7);
        check.due("the earliest end at tick 7", x.surge(0, 1, 0, 1), 8);
        check.due("the latest end at tick 7", x.surge(0, 1, 100, 100), 207);
        check.due("one from now", x.surge(5, 4, 1, 1), 9);
    }

    private static void liveRequests() {
        check.sentence("Returns the number; NONE if there are not so many live requests; BAD if i is negative.");
        for (int length = 0; length <= 15; length++) {
            RetryStorm x = Storms.queueOf(length, 16);
            x.run(2);
            check.due("the last of " + (length + 1), x.live(length), length);
            check.due("one more", x.live(length + 1), NONE);
        }
        RetryStorm x = new RetryStorm();
        check.due("live(0)", x.live(0), NONE);
        check.due("live(15)", x.live(15), NONE);
        check.due("live(16)", x.live(16), NONE);
        check.due("live(MAX)", x.live(Integer.MAX_VALUE), NONE);
        check.due("live(-1)", x.live(-1), BAD);
        check.due("live(MIN)", x.live(Integer.MIN_VALUE), BAD);
    }

    private static void requestNumbers() {
        check.sentence("NONE if there is no live request with this number.");
        RetryStorm x = Storms.queueOf(3, 2);
        x.set(0, Storms.ATTEMPTS, 1);
        x.run(2);
        check.due("request 3, which was rejected and has failed", x.request(3, 0), NONE);
        check.due("request 4, which is not yet", x.request(4, 0), NONE);
        check.due("request 2", x.request(2, 0), 0);
        x.run(10);
        check.due("request 0, which has succeeded", x.request(0, 0), NONE);
        for (int number : new int[] {-1, -2, NONE, -8, 16, Integer.MIN_VALUE, Integer.MAX_VALUE}) {
            for (int what = 0; what <= 4; what++) {
                check.due("request(" + number + ", " + what + ")", x.request(number, what), NONE);
            }
        }
        // An abandoned attempt has no request that is told any more.
        RetryStorm y = Storms.one(12, 0);
        y.set(0, Storms.PATIENCE, 1);
        y.run(1);
        check.due("atWorker(false, 0)", y.atWorker(false, 0), -8);
        check.due("request(-8, 0)", y.request(-8, 0), NONE);
        check.due("request(0, 0)", y.request(0, 0), NONE);
    }

    private static void placesInQueues() {
        check.sentence("NONE if the queue is not so long; BAD if i is negative.");
        for (int length = 0; length <= 15; length++) {
            RetryStorm x = Storms.queueOf(length, 16);
            x.run(2);
            check.due("the last of " + length, x.queued(false, length - 1), length == 0 ? BAD : length);
            check.due("one more", x.queued(false, length), NONE);
            check.due("the back queue", x.queued(true, 0), NONE);
        }
        RetryStorm x = inUse();
        check.due("queued(true, 1)", x.queued(true, 1), 3);
        for (boolean back : new boolean[] {false, true}) {
            check.due("one more", x.queued(back, back ? 2 : 3), NONE);
            check.due("queued(" + back + ", 15)", x.queued(back, 15), NONE);
            check.due("queued(" + back + ", 16)", x.queued(back, 16), NONE);
            check.due("queued(" + back + ", MAX)", x.queued(back, Integer.MAX_VALUE), NONE);
            check.due("queued(" + back + ", -1)", x.queued(back, -1), BAD);
            check.due("queued(" + back + ", MIN)", x.queued(back, Integer.MIN_VALUE), BAD);
        }
    }

    private static void abandonedOnes() {
        RetryStorm x = Storms.everyPlace();
        for (int client = 0; client < 4; client++) {
            x.set(client, Storms.ATTEMPTS, 1);
        }
        x.run(2);
        RetryStorm y = Storms.everyPlace();
        y.run(3);
        check.sentence("## Promise 16:", "Returns the number of the request; -8 if the attempt has been abandoned;");
        check.due("queued(false, 0) before tick 5", x.queued(false, 0), 3);
        check.due("queued(false, 0) at tick 5", y.queued(false, 0), -8);
        check.due("queued(true, 0) before tick 5", x.queued(true, 0), 1);
        check.due("queued(true, 0) at tick 5", y.queued(true, 0), -8);
        check.sentence("## Promise 17:", "Returns the number of the request; -8 if the attempt has been abandoned;");
        check.due("atWorker(true, 0) before tick 5", x.atWorker(true, 0), 0);
        check.due("atWorker(true, 0) at tick 5", y.atWorker(true, 0), -8);
        for (int worker = 0; worker < 3; worker++) {
            check.due("atWorker(false, " + worker + ") before tick 5", x.atWorker(false, worker), worker);
            check.due("atWorker(false, " + worker + ") at tick 5", y.atWorker(false, worker), -8);
        }
        // An attempt is abandoned even if its request goes on.
        check.due("request 3 waits", y.request(3, 3), 0);
        x.run(1);
        check.due("request 3 has failed", x.request(3, 3), NONE);
        check.due("queued(false, 0) of a request that has failed", x.queued(false, 0), -8);
    }

    private static void workersThatAreNot() {
        check.sentence("NONE if the worker has none (or there is no such worker)");
        for (boolean back : new boolean[] {false, true}) {
            for (int workers = 1; workers <= 4; workers++) {
                RetryStorm x = new RetryStorm();
                x.setServer(0, back ? 4 : workers);
                x.setServer(2, back ? workers : 1);
                Storms.burst(x, 0, 0, 4, back ? 1 : 12, back ? 12 : 0);
                x.run(back ? 2 : 1);
                for (int worker = 0; worker < 4; worker++) {
                    int want = worker < workers ? worker : NONE;
                    check.due(workers + " workers: atWorker(" + back + ", " + worker + ")", x.atWorker(back, worker), want);
                }
            }
        }
        RetryStorm x = onlyWorker(2, true);
        check.due("a worker that has none any more", x.atWorker(true, 1), NONE);
        check.due("a worker that has one", x.atWorker(true, 2), 2);
    }

    private static void whereARequestIs() {
        check.sentence("(0 waiting, 1 in the front queue, 2 at a front worker that works, 3 in the back queue, 4 at "
            + "a back worker)");
        RetryStorm x = new RetryStorm();
        x.setServer(0, 3);
        x.setServer(1, 4);
        Storms.burst(x, 0, 0, 2, 1, 12);
        Storms.burst(x, 1, 0, 3, 12, 0);
        x.run(2);
        int[] want = {4, 3, 2, 1, 0};
        for (int number = 0; number < want.length; number++) {
            check.due("request(" + number + ", 3)", x.request(number, 3), want[number]);
        }
        check.due("when it is sent", x.request(4, 4), 2);
        check.due("when its attempt expires", x.request(3, 4), 40);
    }
}
