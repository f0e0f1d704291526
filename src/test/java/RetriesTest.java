/** Description, RETRIES: delays, jitter, units and the reasons to give up. */
public final class RetriesTest {
    private static final Check check = new Check("RetriesTest");
    private static final int PATIENCE = 2, ATTEMPTS = 3, BASE = 5, CAP = 6, JITTER = 7, BUDGET = 10, REFUND = 11;

    public static void main(String[] args) {
        noJitter();
        jitters();
        jitterThreeIsCapped();
        jitterThreeRemembersDelays();
        rawOfOne();
        attemptsRunOut();
        unitsRunOut();
        deadlineIsTooNear();
        refund();
        lost();
        check.end();
    }

    private static void sentAt(RetryStorm x, int tick) {
        check.due("where the request is", x.request(2, 3), 0);
        check.due("when it is sent", x.request(2, 4), tick);
    }

    private static void noJitter() {
        check.part("jitter 0");
        RetryStorm x = Storms.blocked();
        x.set(1, BASE, 1);
        x.set(1, CAP, 3);
        x.run(1);
        sentAt(x, 3);
        check.due("units", x.count(1, 7), 190);
        x.run(1);
        sentAt(x, 5);
        x.run(1);
        sentAt(x, 5);
        x.run(1);
        sentAt(x, 8);
        x.run(3);
        sentAt(x, 11);
        x.run(3);
        sentAt(x, 14);
        check.due("rejections", x.count(1, 4), 5);
        check.due("attempts sent", x.count(1, 1), 5);
        check.due("units", x.count(1, 7), 150);
        check.due("run to 16", x.run(4), 0);
        check.due("the sixth is in the queue", x.request(2, 3), 1);
        check.due("its number of attempts", x.request(2, 2), 6);
        check.due("told(3)", x.told(3), 1);
        check.due("its attempt expires", x.request(2, 4), 24);
        check.due("units are not paid for it", x.count(1, 7), 150);
    }

    private static void jitters() {
        // The first numbers drawn are 16838 and 5758.
        int[][] cases = {
            {1, 8, 64, 2 + 7, 2 + 7 + 15}, // 1 + 16838 % 8, 1 + 5758 % 16
            {2, 7, 64, 2 + 6, 2 + 6 + 13}, // 7 - 3 + 16838 % 4, 14 - 7 + 5758 % 8
            {3, 3, 64, 2 + 6, 2 + 6 + 15}, // 3 + 16838 % 7, 3 + 5758 % 13
            {0, 8, 64, 2 + 8, 2 + 8 + 16},
            {1, 16, 5, 2 + 4, 2 + 4 + 4}, // 1 + 16838 % 5, 1 + 5758 % 5
            {2, 16, 6, 2 + 5, 2 + 5 + 5}, // 6 - 3 + 16838 % 4, 6 - 3 + 5758 % 4
        };
        for (int[] c : cases) {
            check.part("jitter " + c[0] + " with base " + c[1]);
            RetryStorm x = Storms.blocked();
            x.set(1, JITTER, c[0]);
            x.set(1, BASE, c[1]);
            x.set(1, CAP, c[2]);
            x.run(1);
            sentAt(x, c[3]);
            x.run(c[3] - 3);
            check.due("still not sent again", x.request(2, 2), 1);
            x.run(1);
            sentAt(x, c[4]);
        }
    }

    private static void jitterThreeIsCapped() {
        check.part("jitter 3 with a cap");
        RetryStorm x = Storms.blocked();
        x.set(1, JITTER, 3);
        x.set(1, BASE, 3);
        x.set(1, CAP, 5);
        x.run(1);
        sentAt(x, 7); // 3 + 16838 % 7 is 6
        x.run(5);
        sentAt(x, 12); // 3 + 5758 % 11 is 8
    }

    private static void jitterThreeRemembersDelays() {
        check.part("jitter 3 after jitter 0");
        RetryStorm x = Storms.blocked();
        x.set(1, BASE, 5);
        x.run(1);
        sentAt(x, 7);
        x.set(1, JITTER, 3);
        x.set(1, BASE, 1);
        x.run(5);
        sentAt(x, 7 + 1 + 16838 % 11);
    }

    private static void rawOfOne() {
        for (int jitter = 0; jitter < 4; jitter++) {
            check.part("cap 1, jitter " + jitter);
            RetryStorm x = Storms.blocked();
            x.set(1, JITTER, jitter);
            x.set(1, CAP, 1);
            x.set(1, BASE, 16);
            x.run(1);
            sentAt(x, 3);
            x.run(1);
            sentAt(x, 4);
        }
    }

    private static void attemptsRunOut() {
        check.part("attempts run out");
        RetryStorm x = Storms.blocked();
        x.set(1, ATTEMPTS, 2);
        x.set(1, BASE, 1);
        x.run(1);
        sentAt(x, 3);
        x.run(1);
        check.due("request(2, 0)", x.request(2, 0), -9);
        check.due("failed", x.count(1, 3), 1);
        check.due("rejections", x.count(1, 4), 2);
        check.due("units", x.count(1, 7), 190);
        RetryStorm y = Storms.blocked();
        y.set(1, BASE, 1);
        y.run(1);
        y.set(1, ATTEMPTS, 1);
        y.run(1);
        check.due("fewer attempts than made", y.count(1, 3), 1);
        check.due("attempts sent", y.count(1, 1), 2);
    }

    private static void unitsRunOut() {
        check.part("units run out");
        RetryStorm x = Storms.blocked();
        x.set(1, BUDGET, 1);
        x.set(1, BASE, 1);
        x.run(1);
        sentAt(x, 3);
        check.due("units", x.count(1, 7), 0);
        x.run(1);
        check.due("failed", x.count(1, 3), 1);
        check.due("units", x.count(1, 7), 0);
        RetryStorm y = Storms.blocked();
        y.set(1, BUDGET, 0);
        y.run(1);
        check.due("no budget, failed", y.count(1, 3), 1);
        check.due("no budget, units", y.count(1, 7), 0);
    }

    private static void deadlineIsTooNear() {
        check.part("the deadline");
        RetryStorm x = Storms.blocked();
        x.set(1, BASE, 5);
        x.set(1, PATIENCE, 5);
        x.run(1);
        check.due("at the deadline it is too late", x.count(1, 3), 1);
        check.due("units are not paid", x.count(1, 7), 200);
        RetryStorm y = Storms.blocked();
        y.set(1, BASE, 5);
        y.set(1, PATIENCE, 6);
        y.run(1);
        sentAt(y, 7);
        check.due("units are paid", y.count(1, 7), 190);
    }

    private static void refund() {
        check.part("refund");
        RetryStorm x = Storms.blocked();
        x.set(1, BASE, 16);
        x.set(1, 0, 1);
        x.set(1, BUDGET, 2);
        x.set(1, REFUND, 3);
        x.run(1);
        check.due("never more than 10 times the budget, and then 10 paid", x.count(1, 7), 10);
        x.run(1);
        check.due("3 more, 10 paid", x.count(1, 7), 3);
        x.run(1);
        check.due("3 more", x.count(1, 7), 6);
        check.due("that one failed", x.count(1, 3), 1);
        x.run(1);
        check.due("3 more", x.count(1, 7), 9);
        x.run(1);
        check.due("3 more, 10 paid", x.count(1, 7), 2);
        check.due("failed", x.count(1, 3), 2);
        check.due("created", x.count(1, 0), 5);
    }

    private static void lost() {
        check.part("a lost request");
        RetryStorm x = new RetryStorm();
        x.setServer(1, 14);
        x.set(0, 0, 50);
        x.set(0, 8, 12);
        x.surge(0, 4, 0, 1);
        x.set(1, 0, 50);
        x.set(1, 8, 12);
        x.surge(1, 4, 0, 1);
        x.set(2, 0, 50);
        x.set(2, 8, 12);
        x.surge(2, 4, 0, 1);
        x.set(3, 0, 50);
        x.set(3, BUDGET, 1);
        x.surge(3, 4, 0, 1);
        x.set(4, 0, 50);
        x.set(4, BUDGET, 1);
        x.set(4, REFUND, 4);
        x.surge(4, 4, 0, 1);
        x.run(1);
        // The queue holds requests 0 to 13 of clients 0 to 3 until the workers take two at the tick's third step.
        check.due("client 3 created", x.count(3, 0), 4);
        check.due("client 3 rejections", x.count(3, 4), 2);
        check.due("client 3 has paid 10 after each refund", x.count(3, 7), 0);
        check.due("live requests", x.told(1), 16);
        check.due("client 4 created", x.count(4, 0), 4);
        check.due("client 4 failed", x.count(4, 3), 4);
        check.due("client 4 sent", x.count(4, 1), 0);
        check.due("client 4 rejections", x.count(4, 4), 0);
        check.due("the last number", x.live(15), 15);
        check.due("live(16)", x.live(16), -9);
        x.set(3, REFUND, 4);
        x.set(3, 0, 1);
        x.set(4, 0, 1);
        x.run(1);
        check.due("a lost one gives units", x.count(3, 7), 4);
        check.due("but not beyond the budget", x.count(4, 7), 10);
        check.due("client 3 failed", x.count(3, 3), 1);
        check.due("client 4 failed", x.count(4, 3), 5);
        check.due("lost ones count as created in the amplification", x.amplification(), 100 * 16 / 22);
    }
}
