/** Objects that more than one test starts from. */
final class Storms {
    static final int PERIOD = 0, PHASE = 1, PATIENCE = 2, ATTEMPTS = 3, TIMEOUT = 4, BASE = 5, CAP = 6, JITTER = 7,
        FRONT = 8, BACK = 9, BUDGET = 10, REFUND = 11;

    private Storms() {
    }

    /**
     * Lets a client of an object at tick 0 create some requests at one tick (and one more 50 ticks later), which
     * are patient: their attempts expire 40 ticks after they were sent.
     */
    static void burst(RetryStorm x, int client, int tick, int requests, int frontWork, int backWork) {
        x.set(client, PERIOD, 50);
        x.set(client, PHASE, tick);
        x.set(client, PATIENCE, 60);
        x.set(client, TIMEOUT, 40);
        x.set(client, FRONT, frontWork);
        x.set(client, BACK, backWork);
        x.surge(client, requests, tick, 1);
    }

    /** A new object in which client 0 creates one request at tick 0. */
    static RetryStorm one(int frontWork, int backWork) {
        RetryStorm x = new RetryStorm();
        burst(x, 0, 0, 1, frontWork, backWork);
        return x;
    }

    /**
     * At tick 2 request 0 is at the back worker, request 1 in the back queue, request 2 at the third front worker
     * and request 3 in the front queue. Much more comes at tick 50.
     */
    static RetryStorm everyPlace() {
        RetryStorm x = new RetryStorm();
        x.setServer(0, 3);
        for (int client = 0; client < 4; client++) {
            burst(x, client, 0, 1, client < 2 ? 1 : 12, client < 2 ? 12 : 0);
            x.set(client, JITTER, client);
            x.set(client, TIMEOUT, 5);
        }
        x.surge(1, 4, 50, 1);
        x.surge(2, 4, 50, 1);
        x.run(2);
        return x;
    }

    /**
     * The only front worker is busy with request 0 of client 5 until tick 11; at tick 1 the clients 0 to 3 put the
     * requests 1 to length (at most 15), four of each client, into the queue, which need 2 ticks each. At tick 12
     * the worker takes one of them.
     */
    static RetryStorm queueOf(int length, int capacity) {
        RetryStorm x = new RetryStorm();
        x.setServer(0, 1);
        x.setServer(1, capacity);
        burst(x, 5, 0, 1, 12, 0);
        for (int client = 0; 4 * client < length; client++) {
            burst(x, client, 1, Math.min(4, length - 4 * client), 2, 0);
        }
        return x;
    }

    /**
     * At tick 2 the only front worker is held until tick 12 and the only place in the queue until then, so
     * each attempt of request 2, which client 1 creates at tick 2, is rejected before tick 12.
     */
    static RetryStorm blocked() {
        RetryStorm x = new RetryStorm();
        x.setServer(0, 1);
        x.setServer(1, 1);
        x.set(0, PERIOD, 1);
        x.set(0, PATIENCE, 60);
        x.set(0, TIMEOUT, 40);
        x.set(0, FRONT, 12);
        x.run(2);
        x.set(0, PERIOD, 0);
        refused(x, 1, 1);
        x.set(1, ATTEMPTS, 6);
        return x;
    }

    /** Lets another client of a blocked object create patient requests at tick 2, too. */
    static void refused(RetryStorm x, int client, int requests) {
        x.set(client, PERIOD, 50);
        x.set(client, PHASE, 2);
        x.set(client, PATIENCE, 60);
        x.surge(client, requests, 0, 1);
    }
}
