/** The edges of the Description's RETRIES, sentence by sentence. */
public final class EdgesOfRetriesTest {
    private static final int NONE = RetryStorm.NONE;
    // The numbers that are drawn from x = 1 on.
    private static final int[] DRAWN = {16838, 5758, 10113, 17515, 31051, 5627, 23010, 7419, 16212, 4086, 2749, 12767, 9084,
        12060};
    private static final Check check = new Check("EdgesOfRetriesTest");

    public static void main(String[] args) {
        rawAndCap();
        numbersDrawn();
        drawnNumbersArePartOfTheState();
        jitterNone();
        jitterOne();
        jitterTwo();
        jitterThree();
        jitterThreeWithoutADelayBefore();
        jitterThreeAtTheCap();
        attempts();
        attemptsThatAreSetLater();
        units();
        deadlineAfterARejection();
        deadlineAfterATimeout();
        deadlineAfterHopelessness();
        deadlineAfterARejectionAtTheBack();
        orderOfTheReasons();
        noUnitsIfItFails();
        waitsUntilItsTick();
        budgetAsUnits();
        refundUpToTheBudget();
        refundOfALostRequest();
        check.end();
    }

    /**
     * Request 2 of a blocked object, just before its k-th attempt, at tick k + 1: the delays before were of one
     * tick each, without jitter. (k is 5 at most, so that k + 1 is before tick 12.)
     */
    private static RetryStorm beforeAttempt(int k) {
        RetryStorm x = Storms.blocked();
        x.set(1, Storms.BASE, 1);
        x.set(1, Storms.CAP, 1);
        if (k > 1) {
            x.run(k - 1);
        }
        return x;
    }

    /** The delay after the k-th attempt of request 2, or NONE if it fails. */
    private static int delayAfter(int k, int base, int cap, int jitter) {
        RetryStorm x = beforeAttempt(k);
        x.set(1, Storms.BASE, base);
        x.set(1, Storms.CAP, cap);
        x.set(1, Storms.JITTER, jitter);
        x.run(1);
        check.due("request(2, 3)", x.request(2, 3), x.count(1, 3) == 0 ? 0 : NONE);
        return x.count(1, 3) == 0 ? x.request(2, 4) - (k + 1) : NONE;
    }

    private static void rawAndCap() {
        check.sentence("raw is base * 2 to the power of (k - 1), but at most cap.");
        for (int k = 1; k <= 5; k++) {
            for (int base = 1; base <= 16; base++) {
                int power = base;
                for (int i = 1; i < k; i++) {
                    power += power;
                }
                for (int cap : new int[] {1, base, power - 1, power, power + 1, 50, 64}) {
                    if (cap < 1 || cap > 64) {
                        continue;
                    }
                    int raw = power < cap ? power : cap;
                    // The deadline of request 2 is tick 62.
                    int want = k + 1 + raw < 62 ? raw : NONE;
                    String call = "k " + k + ", base " + base + ", cap " + cap;
                    check.due(call, delayAfter(k, base, cap, 0), want);
                }
            }
        }
    }

    /** Fourteen requests are rejected at tick 2: four of each of the clients 1 to 3, and two of client 4. */
    private static RetryStorm fourteen() {
        RetryStorm x = Storms.blocked();
        for (int client = 1; client <= 4; client++) {
            Storms.refused(x, client, client == 4 ? 2 : 4);
            x.set(client, Storms.JITTER, 1);
            x.set(client, Storms.BASE, 16);
        }
        return x;
    }

    private static void checkFourteen(RetryStorm x) {
        for (int i = 0; i < 14; i++) {
            check.due("number " + i + " and 1", x.request(2 + i, 4) - 2, 1 + DRAWN[i] % 16);
        }
    }

    private static void numbersDrawn() {
        check.sentence("To draw a number, x becomes x * 1103515245 + 12345 (int arithmetic that wraps around), and "
            + "the number is (x >>> 16) & 32767; x is 1 at first");
        RetryStorm x = fourteen();
        x.run(1);
        checkFourteen(x);
    }

    private static void drawnNumbersArePartOfTheState() {
        check.sentence("and a part of the state.");
        RetryStorm x = fourteen();
        x.run(1);
        x.undo();
        x.ifRun(60, 1);
        x.bestDiscipline(15);
        x.run(1);
        checkFourteen(x);
    }

    private static void jitterNone() {
        check.sentence("Jitter 0: the delay is raw.");
        for (int base = 1; base <= 16; base++) {
            check.due("base " + base, delayAfter(1, base, 64, 0), base);
            check.due("base " + base + " once more", delayAfter(2, base, 64, 0), 2 * base);
        }
    }

    private static void jitterOne() {
        check.sentence("Jitter 1: 1 + (a number that is drawn) % raw.");
        for (int base = 1; base <= 16; base++) {
            check.due("raw " + base, delayAfter(1, base, 64, 1), 1 + DRAWN[0] % base);
            check.due("raw " + 2 * base, delayAfter(2, base, 64, 1), 1 + DRAWN[0] % (2 * base));
            check.due("raw of cap " + base, delayAfter(5, 16, base, 1), 1 + DRAWN[0] % base);
        }
    }

    private static void jitterTwo() {
        check.sentence("Jitter 2: raw - raw / 2 + (a number that is drawn) % (raw / 2 + 1), with whole quotients.");
        for (int base = 1; base <= 16; base++) {
            int half = base % 2 == 0 ? base / 2 : (base - 1) / 2;
            check.due("raw " + base, delayAfter(1, base, 64, 2), base - half + DRAWN[0] % (half + 1));
            check.due("raw " + 2 * base, delayAfter(2, base, 64, 2), base + DRAWN[0] % (base + 1));
            check.due("raw of cap " + base, delayAfter(5, 16, base, 2), base - half + DRAWN[0] % (half + 1));
        }
    }

    private static void jitterThree() {
        check.sentence("Jitter 3: base + (a number that is drawn) % (2 * d + 1), but at most cap, where d is the "
            + "delay before this one of the same request");
        for (int base = 1; base <= 16; base++) {
            for (int k = 2; k <= 5; k++) {
                check.due("base " + base + " after a delay of 1", delayAfter(k, base, 64, 3), base + DRAWN[0] % 3);
            }
        }
        // The delays without jitter were 1 and 4.
        RetryStorm x = beforeAttempt(2);
        x.set(1, Storms.BASE, 2);
        x.set(1, Storms.CAP, 64);
        x.run(1);
        check.due("the delay of 4", x.request(2, 4), 3 + 4);
        x.set(1, Storms.JITTER, 3);
        x.run(4);
        check.due("2 + 16838 % 9", x.request(2, 4), 7 + 2 + 16838 % 9);
    }

    private static void jitterThreeWithoutADelayBefore() {
        check.sentence("or base, if there was none.");
        for (int base = 1; base <= 16; base++) {
            check.due("base " + base, delayAfter(1, base, 64, 3), base + DRAWN[0] % (2 * base + 1));
        }
    }

    private static void jitterThreeAtTheCap() {
        check.sentence("Jitter 3: base + (a number that is drawn) % (2 * d + 1), but at most cap");
        // 11 + 16838 % 23 is 13.
        for (int cap : new int[] {1, 10, 11, 12, 13, 14, 64}) {
            check.due("cap " + cap, delayAfter(1, 11, cap, 3), cap < 13 ? cap : 13);
        }
    }

    private static void attempts() {
        check.sentence("The request fails if k is its client's attempts or more");
        for (int attempts = 1; attempts <= 6; attempts++) {
            RetryStorm x = Storms.blocked();
            x.set(1, Storms.ATTEMPTS, attempts);
            x.set(1, Storms.CAP, 1);
            for (int k = 1; k < attempts; k++) {
                x.run(1);
                check.due("after attempt " + k + " of " + attempts, x.request(2, 2), k);
                check.due("it waits", x.request(2, 3), 0);
            }
            x.run(1);
            check.due("after the last of " + attempts, x.request(2, 2), NONE);
            check.due("failed", x.count(1, 3), 1);
            check.due("sent", x.count(1, 1), attempts);
            check.due("paid", x.count(1, 7), 200 - 10 * (attempts - 1));
        }
    }

    private static void attemptsThatAreSetLater() {
        check.sentence("The request fails if k is its client's attempts or more");
        for (int attempts = 1; attempts <= 6; attempts++) {
            RetryStorm x = beforeAttempt(3);
            x.set(1, Storms.ATTEMPTS, attempts);
            x.run(1);
            check.due("after attempt 3, with " + attempts, x.count(1, 3), attempts <= 3 ? 1 : 0);
        }
    }

    private static void units() {
        check.sentence("if the client has less than 10 units");
        for (int refund = 0; refund <= 10; refund++) {
            RetryStorm x = Storms.blocked();
            x.set(1, Storms.PERIOD, 1);
            x.set(1, Storms.BUDGET, 1);
            x.set(1, Storms.REFUND, refund);
            x.run(1);
            check.due("10 units are enough", x.request(2, 3), 0);
            check.due("and are paid", x.count(1, 7), 0);
            x.run(1);
            check.due(refund + " units", x.request(3, 3), refund < 10 ? NONE : 0);
            check.due("failed", x.count(1, 3), refund < 10 ? 1 : 0);
            check.due("the units then", x.count(1, 7), refund < 10 ? refund : 0);
        }
        RetryStorm x = Storms.blocked();
        x.set(1, Storms.BUDGET, 0);
        x.run(1);
        check.due("no units", x.count(1, 3), 1);
        check.due("no units are paid", x.count(1, 7), 0);
    }

    private static void checkDeadline(RetryStorm x, int client, int number, boolean fails) {
        check.due("failed", x.count(client, 3), fails ? 1 : 0);
        check.due("where it is", x.request(number, 3), fails ? NONE : 0);
        check.due("units", x.count(client, 7), fails ? 200 : 190);
    }

    private static void deadlineAfterARejection() {
        check.sentence("or if t + delay is not less than the deadline.");
        check.sentence("In the steps 1 to 4 now is t, in the steps 5 and 6 it is t + 1.");
        for (int patience = 4; patience <= 6; patience++) {
            RetryStorm x = Storms.blocked();
            x.set(1, Storms.BASE, 5);
            x.set(1, Storms.PATIENCE, patience);
            x.run(1);
            checkDeadline(x, 1, 2, patience <= 5);
        }
    }

    private static void deadlineAfterATimeout() {
        check.sentence("or if t + delay is not less than the deadline.");
        check.sentence("In the steps 1 to 4 now is t, in the steps 5 and 6 it is t + 1.");
        for (int patience = 4; patience <= 6; patience++) {
            RetryStorm x = Storms.one(12, 0);
            x.set(0, Storms.TIMEOUT, 3);
            x.set(0, Storms.PATIENCE, patience);
            x.run(3);
            check.due("timeouts", x.count(0, 5), 1);
            checkDeadline(x, 0, 0, patience <= 5);
            check.due("it waits until 3 + 2", x.request(0, 4), patience <= 5 ? NONE : 5);
        }
    }

    private static void deadlineAfterHopelessness() {
        check.sentence("or if t + delay is not less than the deadline.");
        check.sentence("In the steps 1 to 4 now is t, in the steps 5 and 6 it is t + 1.");
        for (int patience = 1; patience <= 3; patience++) {
            RetryStorm x = Storms.one(12, 0);
            x.set(0, Storms.PATIENCE, patience);
            x.setSwitch(1, true);
            x.run(1);
            check.due("hopelessness", x.count(0, 6), 1);
            checkDeadline(x, 0, 0, patience <= 2);
            check.due("it waits until 0 + 2", x.request(0, 4), patience <= 2 ? NONE : 2);
        }
    }

    private static void deadlineAfterARejectionAtTheBack() {
        check.sentence("or if t + delay is not less than the deadline.");
        check.sentence("In the steps 1 to 4 now is t, in the steps 5 and 6 it is t + 1.");
        for (int patience = 4; patience <= 6; patience++) {
            RetryStorm x = new RetryStorm();
            x.setServer(3, 1);
            Storms.burst(x, 0, 0, 1, 3, 12);
            Storms.burst(x, 1, 0, 1, 3, 12);
            x.set(1, Storms.PATIENCE, patience);
            x.run(3);
            check.due("rejections", x.count(1, 4), 1);
            checkDeadline(x, 1, 1, patience <= 5);
            check.due("it waits until 3 + 2", x.request(1, 4), patience <= 5 ? NONE : 5);
        }
    }

    /** When request 3 is sent again, which is rejected right after request 2, if something of request 2 is set. */
    private static int secondSentAt(int what, int v) {
        RetryStorm x = Storms.blocked();
        Storms.refused(x, 2, 1);
        for (int client = 1; client <= 2; client++) {
            x.set(client, Storms.BASE, 7);
            x.set(client, Storms.JITTER, 1);
        }
        x.set(1, what, v);
        x.run(1);
        return x.request(3, 4) - 2;
    }

    private static void orderOfTheReasons() {
        check.sentence("These reasons are looked at in this order, and the delay is computed (and a number drawn, "
            + "if the jitter needs one) only if the first two do not apply.");
        int first = 1 + DRAWN[0] % 7;
        int second = 1 + DRAWN[1] % 7;
        check.holds("the two can be told apart", first != second);
        check.due("none applies", secondSentAt(Storms.CAP, 16), second);
        check.due("attempts", secondSentAt(Storms.ATTEMPTS, 1), first);
        check.due("units", secondSentAt(Storms.BUDGET, 0), first);
        check.due("the deadline", secondSentAt(Storms.PATIENCE, 1), second);
        check.due("jitter 0", secondSentAt(Storms.JITTER, 0), first);
        check.due("jitter 2", secondSentAt(Storms.JITTER, 2), second);
        check.due("jitter 3", secondSentAt(Storms.JITTER, 3), second);
        check.due("a modulus of 1", secondSentAt(Storms.CAP, 1), second);
    }

    private static void noUnitsIfItFails() {
        check.sentence("(If the request fails, no units are paid.)");
        int[][] cases = {{Storms.ATTEMPTS, 1, 200}, {Storms.PATIENCE, 1, 200}, {Storms.BUDGET, 0, 0}};
        for (int[] c : cases) {
            RetryStorm x = Storms.blocked();
            x.set(1, c[0], c[1]);
            x.run(1);
            check.due("failed", x.count(1, 3), 1);
            check.due("units with property " + c[0], x.count(1, 7), c[2]);
        }
        check.sentence("Otherwise the client pays 10 units");
        RetryStorm x = Storms.blocked();
        x.run(1);
        check.due("units", x.count(1, 7), 190);
        check.due("another client's", x.count(2, 7), 200);
    }

    private static void waitsUntilItsTick() {
        check.sentence("and the request waits until tick t + delay, at which it is sent.");
        for (int base = 1; base <= 16; base++) {
            RetryStorm x = Storms.blocked();
            x.set(1, Storms.BASE, base);
            x.run(base);
            check.due("before tick 2 + " + base, x.request(2, 2), 1);
            check.due("it waits", x.request(2, 3), 0);
            x.run(1);
            check.due("at tick 2 + " + base, x.request(2, 2), 2);
            check.due("sent", x.count(1, 1), 2);
        }
    }

    private static void budgetAsUnits() {
        check.sentence("A client has 10 times its budget as units at first, and whenever the budget is set.");
        RetryStorm x = Storms.blocked();
        x.run(1);
        check.due("units", x.count(1, 7), 190);
        check.due("set to what it is", x.set(1, Storms.BUDGET, 20), 20);
        check.due("units", x.count(1, 7), 200);
        for (int budget = 0; budget <= 20; budget++) {
            x.set(1, Storms.BUDGET, budget);
            check.due("units of " + budget, x.count(1, 7), 10 * budget);
            check.due("another client's", x.count(2, 7), 200);
        }
        check.sentence("if it is the refund, its units stay.");
        x.set(1, Storms.BUDGET, 1);
        for (int refund = 0; refund <= 10; refund++) {
            x.set(1, Storms.REFUND, refund);
            check.due("units with refund " + refund, x.count(1, 7), 10);
        }
        for (int what = 0; what < 10; what++) {
            x.set(1, what, 1);
            check.due("units after property " + what, x.count(1, 7), 10);
        }
    }

    private static void refundUpToTheBudget() {
        check.sentence("it gets as many units as its refund says, but never more than 10 times its budget.");
        for (int refund = 0; refund <= 10; refund++) {
            RetryStorm x = Storms.blocked();
            x.set(1, Storms.PERIOD, 1);
            x.set(1, Storms.BUDGET, 2);
            x.set(1, Storms.REFUND, refund);
            x.run(1);
            check.due("20 stay 20, and 10 are paid", x.count(1, 7), 10);
            x.setServer(1, 16);
            int units = 10;
            for (int i = 0; i < 4; i++) {
                x.run(1);
                units = Math.min(20, units + refund);
                check.due("units with refund " + refund, x.count(1, 7), units);
            }
        }
        RetryStorm x = Storms.one(1, 0);
        x.set(0, Storms.BUDGET, 0);
        x.run(1);
        check.due("nothing beyond a budget of 0", x.count(0, 7), 0);
    }

    private static void refundOfALostRequest() {
        check.sentence("When it creates a request (also one that is lost)");
        RetryStorm x = Storms.queueOf(15, 16);
        // Client 4 creates a request at tick 0, which is paid for once, and then lost ones.
        Storms.burst(x, 4, 0, 1, 12, 0);
        x.set(4, Storms.PERIOD, 2);
        x.set(4, Storms.TIMEOUT, 1);
        x.set(4, Storms.BASE, 16);
        x.set(4, Storms.REFUND, 3);
        x.run(2);
        check.due("told(1)", x.told(1), 16);
        check.due("units", x.count(4, 7), 190);
        x.run(1);
        check.due("one was lost", x.count(4, 3), 1);
        check.due("units", x.count(4, 7), 193);
        x.run(6);
        check.due("four were lost", x.count(4, 3), 4);
        check.due("units", x.count(4, 7), 200);
        check.due("sent", x.count(4, 1), 1);
    }
}
