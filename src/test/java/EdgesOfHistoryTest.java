/** The edges of the Description's HISTORY, and of the promises 13 and 18 to 23, sentence by sentence. */
public final class EdgesOfHistoryTest {
    private static final int STATE = RetryStorm.STATE, NONE = RetryStorm.NONE;
    private static final Check check = new Check("EdgesOfHistoryTest");

    public static void main(String[] args) {
        whatATickLeaves();
        sixtyFourTicks();
        tooFewTicks();
        greatestLengthAtAnEnd();
        quietAtTheLimit();
        quietOneAfterTheOther();
        quietAtMost64();
        recoveryAtItsEnd();
        recoveryAtTheLimit();
        recoveryWithoutASurge();
        recoveryAfterASurgeInPlace();
        recoveryWithoutATick();
        recoveryOfRememberedTicks();
        wholeQuotient();
        noRequestCreated();
        whatIsRecorded();
        refusedCallsAreNotRecorded();
        atMostFour();
        undoOfNothing();
        undoIsNotRecorded();
        undoOfTheHistory();
        digestOfANewObject();
        digestOfFullQueues();
        check.end();
    }

    /**
     * A new object whose queue is 3, 2, 2, 1, 1, 0, 0, .. long at the ends of the ticks from this one on, if the
     * object does nothing else: four requests come, and one worker needs 2 ticks for each.
     */
    private static RetryStorm burstAt(int tick) {
        RetryStorm x = new RetryStorm();
        x.setServer(0, 1);
        Storms.burst(x, 3, tick, 4, 2, 0);
        return x;
    }

    private static void whatATickLeaves() {
        check.sentence("For each tick that was done there are: the length of the front queue at its end, the "
            + "successes, the attempts that were sent, and the work that was found to be wasted in this tick.");
        RetryStorm x = burstAt(1);
        x.set(3, Storms.TIMEOUT, 5);
        x.set(3, Storms.BASE, 16);
        x.setSwitch(2, true);
        int[][] want = {
            {0, 0, 0, 0}, // tick 0
            {3, 0, 4, 0}, // request 0 at the worker
            {3, 1, 0, 0},
            {2, 0, 0, 0},
            {2, 1, 0, 0},
            {0, 0, 0, 1}, // at the end of tick 5 two requests are abandoned, one after a tick of work
            {0, 0, 0, 0}};
        for (int[] tick : want) {
            x.run(1);
            for (int what = 0; what < 4; what++) {
                check.due("tick " + (x.told(0) - 1) + ": window(" + what + ", 1)", x.window(what, 1), tick[what]);
            }
        }
        for (int what = 0; what < 4; what++) {
            int sum = 0;
            for (int n = 1; n <= want.length; n++) {
                sum += want[want.length - n][what];
                check.due("window(" + what + ", " + n + ")", x.window(what, n), sum);
            }
        }
        // Those that were abandoned at tick 6 are sent again at tick 22.
        x.run(15);
        check.due("tick 21: window(2, 1)", x.window(2, 1), 0);
        x.run(1);
        check.due("tick 22: window(2, 1)", x.window(2, 1), 2);
        x.run(1);
        check.due("tick 23: window(2, 1)", x.window(2, 1), 0);
        check.due("window(2, 24)", x.window(2, 24), 4 + 2);
    }

    private static void sixtyFourTicks() {
        check.sentence("The latest 64 ticks are remembered.");
        RetryStorm x = burstAt(1);
        x.run(60);
        x.run(4);
        check.due("after 64 ticks, 64 of them", x.window(2, 64), 4 + 1);
        x.run(1);
        check.due("after 65 ticks tick 1 is remembered", x.window(2, 64), 4 + 1);
        check.due("window(0, 64)", x.window(0, 64), 3 + 3 + 2 + 2 + 1 + 1);
        check.due("window(0, 63)", x.window(0, 63), 3 + 2 + 2 + 1 + 1);
        x.run(1);
        check.due("after 66 ticks tick 1 is forgotten", x.window(2, 64), 1);
        check.due("window(0, 64)", x.window(0, 64), 3 + 2 + 2 + 1 + 1);
        // Twice around: the request of tick 51 is remembered until tick 115 has been done.
        x.run(49);
        check.due("after 115 ticks", x.window(2, 64), 1 + 1);
        check.due("after 115 ticks, the latest 63", x.window(2, 63), 1);
        x.run(1);
        check.due("after 116 ticks", x.window(2, 64), 1);
        x.run(60);
        x.run(60);
        check.due("after 236 ticks: those of the ticks 201", x.window(2, 64), 1);
        check.due("window(2, 35)", x.window(2, 35), 1);
        check.due("window(2, 34)", x.window(2, 34), 0);
    }

    private static void tooFewTicks() {
        check.sentence("STATE if fewer ticks have been done.");
        for (int ticks = 0; ticks <= 64; ticks++) {
            RetryStorm x = new RetryStorm();
            if (ticks > 0) {
                x.run((ticks + 1) / 2);
            }
            if (ticks > 1) {
                x.run(ticks / 2);
            }
            for (int what = 0; what < 4; what++) {
                check.due("after " + ticks + ", window of one more", x.window(what, ticks + 1), ticks < 64 ? STATE : -1);
                check.due("after " + ticks + ", window", x.window(what, ticks), ticks > 0 ? 0 : -1);
                check.due("after " + ticks + ", window(.., 64)", x.window(what, 64), ticks < 64 ? STATE : 0);
            }
        }
    }

    private static void greatestLengthAtAnEnd() {
        check.sentence("10 the greatest length that the front queue had at the end of a tick so far");
        // Six are in the queue during tick 0, four at its end.
        RetryStorm x = new RetryStorm();
        Storms.burst(x, 0, 0, 4, 3, 0);
        Storms.burst(x, 1, 0, 2, 3, 0);
        check.due("before any tick", x.told(10), 0);
        x.run(1);
        check.due("after tick 0", x.told(10), 4);
        x.run(20);
        check.due("it does not fall", x.told(10), 4);
        check.due("told(3)", x.told(3), 0);
        // It is not forgotten when the ticks are.
        x.run(29);
        x.set(0, Storms.PERIOD, 0);
        x.set(1, Storms.PERIOD, 0);
        x.run(60);
        x.run(10);
        check.due("after 120 ticks", x.told(10), 4);
        check.due("quiet(0)", x.quiet(0), 64);
    }

    private static void quietAtTheLimit() {
        check.sentence("the front queue was not longer than a limit at their ends.");
        for (int length = 0; length <= 15; length++) {
            RetryStorm x = Storms.queueOf(length, 16);
            x.run(5);
            for (int limit = 0; limit <= 16; limit++) {
                int want = length > limit ? 0 : 4 + 1;
                check.due("quiet(" + limit + ") with " + length, x.quiet(limit), want);
            }
        }
    }

    private static void quietOneAfterTheOther() {
        check.sentence("Counts for how many of the latest ticks, one after the other");
        RetryStorm x = burstAt(5);
        check.due("no tick", x.quiet(16), 0);
        x.run(5);
        check.due("quiet(0) after the ticks 0 to 4", x.quiet(0), 5);
        x.run(1);
        check.due("quiet(0) after tick 5", x.quiet(0), 0);
        check.due("quiet(3) after tick 5", x.quiet(3), 6);
        x.run(9);
        // The lengths are 3, 3, 2, 2, 1, 1, 0, 0, 0, 0 at the ends of the ticks 5 to 14.
        int[] want = {4, 6, 8, 15};
        for (int limit = 0; limit < want.length; limit++) {
            check.due("quiet(" + limit + "), not those before", x.quiet(limit), want[limit]);
        }
    }

    private static void quietAtMost64() {
        check.sentence("Returns how many ticks, at most 64; BAD if limit is out of range.");
        RetryStorm x = new RetryStorm();
        x.run(60);
        for (int ticks = 61; ticks <= 66; ticks++) {
            x.run(1);
            check.due("after " + ticks, x.quiet(0), Math.min(64, ticks));
        }
        // The longest tick is forgotten just in time.
        RetryStorm y = burstAt(0);
        y.run(60);
        y.set(3, Storms.PERIOD, 0);
        y.run(4);
        check.due("tick 1 is remembered", y.quiet(2), 62);
        y.run(1);
        check.due("tick 1 is remembered still", y.quiet(2), 63);
        y.run(1);
        check.due("tick 1 is forgotten", y.quiet(2), 64);
        y.run(1);
        check.due("at most 64", y.quiet(2), 64);
    }

    private static void recoveryAtItsEnd() {
        check.sentence("the first remembered tick that is not before the end of the surge");
        for (int length = 1; length <= 5; length++) {
            RetryStorm x = new RetryStorm();
            x.surge(2, 1, 0, length);
            x.run(length);
            check.due("the end of a surge of " + length + " is to come", x.recovery(2, 16), NONE);
            x.run(1);
            check.due("the end of a surge of " + length, x.recovery(2, 0), 0);
            x.run(30);
            check.due("it stays the first", x.recovery(2, 0), 0);
        }
    }

    private static void recoveryAtTheLimit() {
        check.sentence("and at whose end the front queue was not longer than a limit.");
        // The surge ends at tick 1; the lengths are 3, 3, 2, 2, 1, 1, 0, 0 at the ends of the ticks 0 to 7.
        RetryStorm x = burstAt(0);
        int[] first = {6, 4, 2, 1, 1};
        for (int t = 0; t <= 9; t++) {
            x.run(1);
            for (int limit = 0; limit < first.length; limit++) {
                int want = t >= first[limit] ? first[limit] - 1 : NONE;
                check.due("after tick " + t + ", recovery(3, " + limit + ")", x.recovery(3, limit), want);
            }
            check.due("recovery(3, 16)", x.recovery(3, 16), t == 0 ? NONE : 0);
        }
    }

    private static void recoveryWithoutASurge() {
        check.sentence("NONE if the client has no surge");
        RetryStorm x = burstAt(0);
        x.run(40);
        for (int client = 0; client < 6; client++) {
            check.due("recovery(" + client + ", 16)", x.recovery(client, 16), client == 3 ? 0 : NONE);
        }
        x.surge(4, 1, 0, 1);
        check.due("a new surge", x.recovery(4, 16), NONE);
        x.undo();
        check.due("it has none again", x.recovery(4, 16), NONE);
        x.run(10);
        check.due("it has none still", x.recovery(4, 16), NONE);
    }

    private static void recoveryAfterASurgeInPlace() {
        check.sentence("Gives a client a surge, in place of the one that it had.");
        RetryStorm x = new RetryStorm();
        check.due("the first surge", x.surge(4, 2, 0, 1), 1);
        x.run(5);
        check.due("it has ended and is the client's still", x.recovery(4, 0), 0);
        check.due("one that ends late", x.surge(4, 2, 50, 50), 105);
        x.run(2);
        check.due("the first surge is the client's no more", x.recovery(4, 0), NONE);
        check.due("one that ends earlier", x.surge(4, 2, 0, 1), 8);
        x.run(1);
        check.due("tick 7 is before its end", x.recovery(4, 0), NONE);
        x.run(1);
        check.due("tick 8 is not", x.recovery(4, 0), 0);
        // Back to before the two runs and the surge that ended earlier.
        for (int left = 3; left >= 1; left--) {
            check.due("undo()", x.undo(), left);
        }
        check.due("told(0)", x.told(0), 7);
        check.due("the one that ends late again", x.recovery(4, 0), NONE);
        x.run(2);
        check.due("no tick from 105 on has been done", x.recovery(4, 16), NONE);
    }

    private static void recoveryWithoutATick() {
        check.sentence("NONE if the client has no surge, or there is no such tick");
        RetryStorm x = Storms.queueOf(9, 16);
        x.run(11);
        for (int limit = 0; limit <= 16; limit++) {
            check.due("recovery(0, " + limit + ")", x.recovery(0, limit), limit < 9 ? NONE : 0);
        }
        x.surge(0, 2, 3, 1);
        check.due("the later surge ends at tick 15", x.recovery(0, 16), NONE);
        x.run(4);
        check.due("tick 14 is before its end", x.recovery(0, 16), NONE);
        x.run(1);
        check.due("tick 15 is not", x.recovery(0, 16), 0);
    }

    private static void recoveryOfRememberedTicks() {
        check.sentence("the first remembered tick");
        RetryStorm x = new RetryStorm();
        x.surge(1, 1, 2, 1);
        x.run(60);
        x.run(7);
        check.due("tick 3, its end, is the oldest remembered", x.recovery(1, 0), 0);
        x.run(1);
        check.due("tick 4 is the oldest remembered", x.recovery(1, 0), 1);
        x.run(60);
        check.due("tick 64 is the oldest remembered", x.recovery(1, 0), 61);
    }

    private static void wholeQuotient() {
        check.sentence("divided by the number of all requests created so far (a whole quotient)");
        // Of the requests of client 1 some are sent twice: 4 for 3, and 5 for 3.
        RetryStorm x = Storms.blocked();
        x.set(1, Storms.ATTEMPTS, 2);
        x.run(1);
        check.due("3 for 3", x.amplification(), 100);
        x.run(2);
        check.due("4 for 3", x.amplification(), 133);
        RetryStorm y = Storms.blocked();
        y.set(1, Storms.CAP, 1);
        y.run(3);
        check.due("5 for 3", y.amplification(), 166);
        y.run(3);
        check.due("8 for 3", y.amplification(), 266);
    }

    private static void noRequestCreated() {
        check.sentence("0 if no request was created.");
        RetryStorm x = new RetryStorm();
        check.due("at tick 0", x.amplification(), 0);
        x.run(60);
        check.due("at tick 60", x.amplification(), 0);
        x.set(0, Storms.PERIOD, 50);
        x.run(40);
        check.due("at tick 100, before it has been done", x.amplification(), 0);
        x.run(1);
        check.due("one request", x.amplification(), 100);
    }

    private static void whatIsRecorded() {
        check.sentence("Each successful call of set(), setServer(), setDiscipline(), setSwitch(), surge() and run() "
            + "records the state (everything but the recorded states) before it.");
        for (int kind = 0; kind < 6; kind++) {
            RetryStorm x = new RetryStorm();
            long before = x.digest();
            change(x, kind);
            check.due("kind " + kind + " is recorded", x.told(12), 1);
            check.due("undo()", x.undo(), 0);
            check.due("digest()", x.digest(), before);
            RetryStorm y = Storms.everyPlace();
            RetryStorm z = Storms.everyPlace();
            change(y, kind);
            check.due("undo() among others", y.undo(), 3);
            check.due("what comes then", y.run(60), z.run(60));
            check.due("digest() then, with four remembered states each", y.digest(), z.digest());
            for (int what = 0; what < 4; what++) {
                check.due("window(" + what + ", 62) then", y.window(what, 62), z.window(what, 62));
            }
        }
    }

    private static void change(RetryStorm x, int kind) {
        switch (kind) {
            case 0: x.set(2, Storms.BUDGET, 3); break;
            case 1: x.setServer(1, 16); break;
            case 2: x.setDiscipline(3); break;
            case 3: x.setSwitch(1, true); break;
            case 4: x.surge(2, 4, 0, 100); break;
            default: x.run(60);
        }
    }

    private static void refusedCallsAreNotRecorded() {
        check.sentence("Each successful call of set(), setServer(), setDiscipline(), setSwitch(), surge() and run() "
            + "records the state");
        RetryStorm x = new RetryStorm();
        x.set(0, Storms.PERIOD, 1);
        x.set(0, Storms.FRONT, 12);
        check.due("told(12)", x.told(12), 2);
        x.set(0, Storms.PERIOD, 51);
        x.setServer(0, 5);
        x.setServer(0, 0);
        x.setDiscipline(4);
        x.setSwitch(3, true);
        x.surge(0, 0, 0, 1);
        x.run(61);
        check.due("told(12) after BAD", x.told(12), 2);
        x.run(4);
        check.due("setServer(0, 1)", x.setServer(0, 1), STATE);
        check.due("setServer(1, 1)", x.setServer(1, 1), STATE);
        check.due("told(12) after STATE", x.told(12), 3);
        check.due("undo() undoes the run", x.undo(), 2);
        check.due("told(0)", x.told(0), 0);
    }

    private static void atMostFour() {
        check.sentence("At most 4 recorded states are remembered: when one more is recorded, the oldest one is "
            + "dropped; undo() restores the latest one and removes it.");
        for (int calls = 1; calls <= 9; calls++) {
            RetryStorm x = new RetryStorm();
            for (int i = 1; i <= calls; i++) {
                x.run(i);
                check.due("told(12)", x.told(12), Math.min(4, i));
            }
            for (int i = calls; i > Math.max(0, calls - 4); i--) {
                check.due("undo()", x.undo(), i - 1 - Math.max(0, calls - 4));
                check.due("told(0) before run(" + i + ")", x.told(0), i * (i - 1) / 2);
            }
            check.due("the others are dropped", x.undo(), STATE);
            check.due("told(12)", x.told(12), 0);
        }
    }

    private static void undoOfNothing() {
        check.sentence("Returns how many states are still remembered; STATE if there is none.");
        RetryStorm x = new RetryStorm();
        check.due("undo()", x.undo(), STATE);
        check.due("undo() once more", x.undo(), STATE);
        x.setDiscipline(2);
        check.due("undo() of one", x.undo(), 0);
        check.due("undo() of none", x.undo(), STATE);
        check.due("told(11)", x.told(11), 0);
        check.due("digest()", x.digest(), new RetryStorm().digest());
    }

    private static void undoIsNotRecorded() {
        check.sentence("Returns to the latest remembered state, which is not remembered any more then.");
        RetryStorm x = new RetryStorm();
        for (int d = 1; d <= 3; d++) {
            x.setDiscipline(d);
        }
        check.due("undo()", x.undo(), 2);
        check.due("told(11)", x.told(11), 2);
        x.setDiscipline(0);
        check.due("undo() of the new one", x.undo(), 2);
        check.due("told(11)", x.told(11), 2);
        check.due("undo()", x.undo(), 1);
        check.due("told(11)", x.told(11), 1);
    }

    private static void undoOfTheHistory() {
        check.sentence("records the state (everything but the recorded states) before it.");
        RetryStorm x = burstAt(0);
        x.run(7);
        x.run(60);
        check.due("told(10)", x.told(10), 3);
        check.due("undo()", x.undo(), 3);
        check.due("window(0, 8)", x.window(0, 8), STATE);
        check.due("window(0, 7)", x.window(0, 7), 3 + 3 + 2 + 2 + 1 + 1);
        check.due("quiet(1)", x.quiet(1), 3);
        check.due("recovery(3, 2)", x.recovery(3, 2), 1);
        check.due("undo()", x.undo(), 2);
        check.due("window(0, 1)", x.window(0, 1), STATE);
        check.due("quiet(16)", x.quiet(16), 0);
        check.due("told(10)", x.told(10), 0);
        check.due("recovery(3, 16)", x.recovery(3, 16), NONE);
    }

    private static void digestOfANewObject() {
        check.sentence("h is 18520 at first; then h becomes 31 * h + v (long arithmetic that wraps around) for each "
            + "of these values v, in this order:");
        int[] properties = {0, 0, 20, 3, 10, 2, 16, 0, 2, 0, 20, 10};
        long h = 18520;
        for (int what = 0; what <= 12; what++) {
            h *= 31;
        }
        for (int client = 0; client < 6; client++) {
            for (int property : properties) {
                h = 31 * h + property;
            }
            for (int what = 0; what <= 7; what++) {
                h = 31 * h + (what == 7 ? 200 : 0);
            }
            for (int attempt = 1; attempt <= 6; attempt++) {
                h *= 31;
            }
        }
        for (int worker = 0; worker < 8; worker++) {
            h = 31 * h + NONE;
        }
        check.due("digest()", new RetryStorm().digest(), 31 * h);
    }

    private static void digestOfFullQueues() {
        check.sentence("queued(false, i) for all i from 0 for which it is not NONE, then queued(true, i) likewise;");
        // Two are in the front queue, once abandoned and once not, and three in the back queue.
        for (int timeout = 2; timeout <= 3; timeout++) {
            RetryStorm x = new RetryStorm();
            x.setServer(0, 4);
            Storms.burst(x, 0, 0, 3, 2, 12);
            Storms.burst(x, 1, 0, 3, 12, 0);
            x.set(1, Storms.TIMEOUT, timeout);
            x.set(1, Storms.ATTEMPTS, 1);
            x.run(2);
            check.due("queued(false, 1)", x.queued(false, 1), timeout == 2 ? -8 : 5);
            check.due("queued(true, 2)", x.queued(true, 2), 2);
            check.due("queued(false, 2)", x.queued(false, 2), NONE);
            check.due("queued(true, 3)", x.queued(true, 3), NONE);
            check.due("digest()", x.digest(), DigestTest.of(x));
        }
    }
}
