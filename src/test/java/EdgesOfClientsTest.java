/** The edges of the Description's CLIENTS and SERVERS, sentence by sentence. */
public final class EdgesOfClientsTest {
    private static final int NONE = RetryStorm.NONE;
    private static final Check check = new Check("EdgesOfClientsTest");

    public static void main(String[] args) {
        valuesAtFirst();
        whenAClientIsDue();
        factors();
        firstAndLastTickOfASurge();
        oneSurgeAtMost();
        numbersOfWorkers();
        capacityOfTheQueue();
        longestQueues();
        capacityOfTheBackQueue();
        lastOrFirst();
        moreThanHalf();
        firstToExpire();
        backTakesTheFirst();
        switchesAtFirst();
        clockAtFirst();
        nothingAtFirst();
        check.end();
    }

    private static void valuesAtFirst() {
        check.sentence("Each has these properties, with their ranges and their values at first:");
        int[] first = {0, 0, 20, 3, 10, 2, 16, 0, 2, 0, 20, 10};
        RetryStorm x = new RetryStorm();
        for (int client = 0; client < 6; client++) {
            for (int what = 0; what < 12; what++) {
                check.due("property(" + client + ", " + what + ")", x.property(client, what), first[what]);
            }
        }
        check.sentence("The discipline of the front server (0 at first)");
        check.due("told(11)", x.told(11), 0);
        check.sentence("A client has 10 times its budget as units at first");
        for (int client = 0; client < 6; client++) {
            check.due("count(" + client + ", 7)", x.count(client, 7), 200);
        }
    }

    private static void whenAClientIsDue() {
        check.sentence("A client whose period is not 0 is due at each tick t that is at least its phase, and for which "
            + "t - phase is a multiple of the period.");
        int[][] cases = {{0, 0}, {0, 5}, {1, 0}, {1, 50}, {2, 0}, {2, 4}, {3, 4}, {7, 6}, {50, 0}, {50, 1}, {50, 50}};
        for (int[] c : cases) {
            RetryStorm x = new RetryStorm();
            x.set(4, Storms.PERIOD, c[0]);
            x.set(4, Storms.PHASE, c[1]);
            int created = 0;
            for (int t = 0; t <= 105; t++) {
                x.run(1);
                created += c[0] != 0 && t >= c[1] && (t - c[1]) % c[0] == 0 ? 1 : 0;
                check.due("period " + c[0] + ", phase " + c[1] + ", after tick " + t, x.count(4, 0), created);
            }
        }
    }

    private static void factors() {
        check.sentence("during a surge it creates as many as the factor of the surge (1 to 4) says.");
        for (int factor = 1; factor <= 4; factor++) {
            RetryStorm x = new RetryStorm();
            x.set(2, Storms.PERIOD, 3);
            x.surge(2, factor, 0, 100);
            x.surge(1, factor, 0, 100);
            x.run(1);
            check.due("factor " + factor, x.count(2, 0), factor);
            x.run(2);
            check.due("when it is not due", x.count(2, 0), factor);
            x.run(1);
            check.due("when it is due again", x.count(2, 0), 2 * factor);
            check.due("a surge of a client without a period", x.count(1, 0), 0);
        }
    }

    private static void firstAndLastTickOfASurge() {
        check.sentence("it lasts from its first tick to the tick before its end.");
        int[][] cases = {{0, 1}, {0, 2}, {1, 1}, {5, 4}, {100, 1}, {99, 100}, {100, 100}};
        for (int[] c : cases) {
            RetryStorm x = new RetryStorm();
            x.set(0, Storms.PERIOD, 1);
            x.run(3);
            int end = x.surge(0, 3, c[0], c[1]);
            check.due("its end", end, 3 + c[0] + c[1]);
            int before = x.count(0, 0);
            for (int t = 3; t <= end + 2; t++) {
                x.run(1);
                int now = x.count(0, 0);
                check.due("created at tick " + t, now - before, t >= 3 + c[0] && t < end ? 3 : 1);
                before = now;
            }
        }
    }

    private static void oneSurgeAtMost() {
        check.sentence("A client has one surge at most; at first none.");
        RetryStorm x = new RetryStorm();
        for (int client = 0; client < 6; client++) {
            x.set(client, Storms.PERIOD, 1);
            check.due("at first: recovery(" + client + ", 16)", x.recovery(client, 16), NONE);
        }
        x.run(1);
        for (int client = 0; client < 6; client++) {
            check.due("at first: count(" + client + ", 0)", x.count(client, 0), 1);
        }
        x.surge(0, 4, 0, 100);
        x.surge(1, 4, 0, 100);
        x.surge(0, 2, 3, 1);
        x.run(3);
        check.due("the later one has ended the first at once", x.count(0, 0), 1 + 3);
        check.due("another client's lasts", x.count(1, 0), 1 + 12);
        x.run(1);
        check.due("the later one", x.count(0, 0), 4 + 2);
        x.run(1);
        check.due("the first does not come back", x.count(0, 0), 6 + 1);
        check.sentence("When it is due, it creates one request;");
        x.run(60);
        check.due("one each tick", x.count(0, 0), 7 + 60);
    }

    private static void numbersOfWorkers() {
        check.sentence("The front server has workers (1 to 4; 2 at first)");
        for (int workers = 0; workers <= 4; workers++) {
            RetryStorm x = new RetryStorm();
            if (workers > 0) {
                x.setServer(0, workers);
            }
            Storms.burst(x, 0, 0, 4, 12, 0);
            Storms.burst(x, 1, 0, 2, 12, 0);
            x.run(1);
            int works = workers == 0 ? 2 : workers;
            check.due("told(5) with " + workers, x.told(5), works);
            check.due("told(3) with " + workers, x.told(3), 6 - works);
        }
        check.sentence("the back server has workers (1 to 4; 1)");
        for (int workers = 0; workers <= 4; workers++) {
            RetryStorm x = new RetryStorm();
            x.setServer(0, 4);
            if (workers > 0) {
                x.setServer(2, workers);
            }
            Storms.burst(x, 0, 0, 4, 1, 12);
            x.run(2);
            int works = workers == 0 ? 1 : workers;
            check.due("told(6) with " + workers, x.told(6), works);
            check.due("told(4) with " + workers, x.told(4), 4 - works);
        }
    }

    private static void capacityOfTheQueue() {
        check.sentence("If its queue is full: without displacing, the attempt fails by rejection");
        check.sentence("If the queue is not full, the attempt is put into it.");
        for (int capacity = 1; capacity <= 14; capacity++) {
            for (int length = capacity - 1; length <= capacity; length++) {
                RetryStorm x = Storms.queueOf(length, capacity);
                Storms.burst(x, 4, 2, 1, 2, 0);
                x.run(3);
                boolean full = length == capacity;
                check.due(length + " of " + capacity + ", rejections", x.count(4, 4), full ? 1 : 0);
                check.due("told(3)", x.told(3), capacity);
                check.due("where the new one is", x.request(length + 1, 3), full ? 0 : 1);
                check.due("the last in the queue", x.queued(false, capacity - 1), full ? length : length + 1);
            }
        }
    }

    /**
     * Each tick 16 requests come, which live for that tick alone: their attempts stay in the queue, abandoned,
     * so that all its places can be in use.
     */
    private static void longestQueues() {
        check.sentence("and a queue of some capacity (1 to 16; 8)");
        for (int capacity = 13; capacity <= 16; capacity++) {
            RetryStorm x = new RetryStorm();
            x.setServer(0, 1);
            x.setServer(1, capacity);
            for (int client = 0; client < 4; client++) {
                Storms.burst(x, client, 0, 4, 12, 0);
                x.set(client, Storms.PERIOD, 1);
                x.set(client, Storms.PATIENCE, 1);
                x.surge(client, 4, 0, 100);
            }
            x.run(1);
            check.due("told(3) after tick 0", x.told(3), capacity - 1);
            check.due("rejections", x.window(2, 1) - capacity, rejections(x));
            x.run(1);
            check.due("told(3) after tick 1", x.told(3), capacity);
            check.due("one more found a place", x.window(2, 2) - capacity - 1, rejections(x));
            check.due("the last", x.queued(false, capacity - 1), -8);
            check.due("one more", x.queued(false, capacity), NONE);
            check.due("told(1)", x.told(1), 0);
            x.run(1);
            check.due("told(3) after tick 2", x.told(3), capacity);
            check.due("told(10)", x.told(10), capacity);
            check.due("quiet(capacity)", x.quiet(capacity), 3);
            check.due("quiet(capacity - 1)", x.quiet(capacity - 1), 0);
        }
    }

    private static int rejections(RetryStorm x) {
        return x.count(0, 4) + x.count(1, 4) + x.count(2, 4) + x.count(3, 4);
    }

    private static void capacityOfTheBackQueue() {
        check.sentence("or, if this is full, it is removed, its front worker is free, and it fails by rejection, "
            + "unless it has been abandoned");
        for (int capacity = 1; capacity <= 4; capacity++) {
            for (int timeout = 2; timeout <= 3; timeout++) {
                RetryStorm x = new RetryStorm();
                x.setServer(0, 4);
                x.setServer(3, capacity);
                Storms.burst(x, 0, 0, 4, 3, 12);
                x.set(0, Storms.TIMEOUT, timeout);
                x.set(0, Storms.ATTEMPTS, 1);
                x.run(3);
                boolean abandoned = timeout == 2;
                check.due("capacity " + capacity + ", told(4)", x.told(4), capacity);
                check.due("told(5)", x.told(5), capacity);
                check.due("its worker is free", x.atWorker(false, 3), capacity == 4 ? -8 : NONE);
                check.due("rejections", x.count(0, 4), abandoned ? 0 : 4 - capacity);
                check.due("timeouts", x.count(0, 5), abandoned ? 4 : capacity);
                check.due("failed", x.count(0, 3), 4);
                check.due("wasted", x.told(8), 3 * (4 - capacity));
                check.due("pending", x.told(9), 3 * capacity);
            }
        }
    }

    private static int taken(RetryStorm x, int discipline) {
        x.setDiscipline(discipline);
        x.run(13);
        return x.atWorker(false, 0);
    }

    private static void lastOrFirst() {
        check.sentence("0 the one that came first; 1 the one that came last;");
        for (int length = 1; length <= 15; length++) {
            check.due("the first of " + length, taken(Storms.queueOf(length, 16), 0), 1);
            check.due("the last of " + length, taken(Storms.queueOf(length, 16), 1), length);
        }
        for (int discipline = 0; discipline < 4; discipline++) {
            check.due("an empty queue", taken(Storms.queueOf(0, 16), discipline), NONE);
        }
    }

    private static void moreThanHalf() {
        check.sentence("2 the one that came last, if more than half of the capacity of the queue is in use, "
            + "otherwise the one that came first;");
        for (int capacity = 1; capacity <= 16; capacity++) {
            for (int length = 1; length <= Math.min(15, capacity); length++) {
                int want = length > capacity - length ? length : 1;
                check.due(length + " of " + capacity, taken(Storms.queueOf(length, capacity), 2), want);
            }
        }
    }

    /** Eight requests 1 to 8 of two clients, with a timeout of 40 ticks but for one property of the second client. */
    private static int takenOfTwo(int what, int v) {
        RetryStorm x = Storms.queueOf(8, 16);
        x.set(1, what, v);
        return taken(x, 3);
    }

    private static void firstToExpire() {
        check.sentence("3 the one that expires first, and of several the one that came first.");
        check.due("they expire at the same tick", taken(Storms.queueOf(15, 16), 3), 1);
        check.due("the second client's one tick earlier", takenOfTwo(Storms.TIMEOUT, 39), 5);
        check.due("the second client's at the same tick", takenOfTwo(Storms.TIMEOUT, 40), 1);
        check.due("by its deadline", takenOfTwo(Storms.PATIENCE, 39), 5);
        check.due("by its deadline, at the same tick", takenOfTwo(Storms.PATIENCE, 40), 1);
        RetryStorm x = Storms.queueOf(8, 16);
        x.set(0, Storms.TIMEOUT, 39);
        check.due("the first client's one tick earlier", taken(x, 3), 1);
        RetryStorm y = Storms.queueOf(15, 16);
        y.set(3, Storms.TIMEOUT, 39);
        check.due("the last client's one tick earlier", taken(y, 3), 13);
        // Each of four clients with one request in turn is the one whose expires a tick before the others'.
        for (int place = 0; place < 4; place++) {
            RetryStorm w = Storms.queueOf(0, 16);
            for (int client = 0; client < 4; client++) {
                Storms.burst(w, client, 1, 1, 2, 0);
            }
            w.set(place, Storms.TIMEOUT, 39);
            check.due("place " + place, taken(w, 3), 1 + place);
        }
        // One that has been abandoned still is the one that expires first.
        RetryStorm z = Storms.queueOf(8, 16);
        z.set(1, Storms.TIMEOUT, 1);
        check.due("one that has been abandoned", taken(z, 3), -8);
    }

    private static void backTakesTheFirst() {
        check.sentence("The back server always takes the one that came first.");
        for (int discipline = 0; discipline < 4; discipline++) {
            RetryStorm x = new RetryStorm();
            x.setServer(0, 3);
            x.setServer(3, 3);
            x.setDiscipline(discipline);
            for (int client = 0; client < 3; client++) {
                Storms.burst(x, client, 2 * client, 1, 1, 6);
                x.set(client, Storms.TIMEOUT, 40 - 10 * client);
            }
            x.run(6);
            check.due("the first", x.atWorker(true, 0), 0);
            check.due("then", x.queued(true, 0), 1);
            check.due("then", x.queued(true, 1), 2);
            x.run(2);
            check.due("discipline " + discipline + ", the second", x.atWorker(true, 0), 1);
            x.run(6);
            check.due("discipline " + discipline + ", the third", x.atWorker(true, 0), 2);
            x.run(6);
            check.due("an empty queue", x.atWorker(true, 0), NONE);
        }
    }

    private static void switchesAtFirst() {
        check.sentence("There are three switches, all off at first: 0 displacing, 1 passing deadlines, 2 cancelling.");
        for (int which = 0; which < 3; which++) {
            RetryStorm x = new RetryStorm();
            check.due("setSwitch(" + which + ", false)", x.setSwitch(which, false), 0);
            check.due("it is off", x.setSwitch(which, true), 0);
            for (int other = 0; other < 3; other++) {
                check.due("only it is on", x.setSwitch(other, other == which), other == which ? 1 : 0);
            }
            check.due("setSwitch(" + which + ", false), on", x.setSwitch(which, false), 1);
        }
    }

    private static void clockAtFirst() {
        check.sentence("The clock is at tick 0 at first.");
        for (int ticks = 1; ticks <= 60; ticks += 59) {
            RetryStorm x = new RetryStorm();
            check.due("told(0)", x.told(0), 0);
            x.run(ticks);
            check.due("told(0) after run(" + ticks + ")", x.told(0), ticks);
        }
    }

    private static void nothingAtFirst() {
        check.sentence("Creates a simulation at tick 0 with everything as it is at first, without requests.");
        RetryStorm x = new RetryStorm();
        for (int what = 0; what <= 12; what++) {
            check.due("told(" + what + ")", x.told(what), 0);
        }
        check.due("live(0)", x.live(0), NONE);
        check.due("a request has the number 0 then", firstNumber(), 0);
    }

    private static int firstNumber() {
        RetryStorm x = Storms.one(12, 0);
        x.run(1);
        return x.live(0);
    }
}
