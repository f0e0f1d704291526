/** Promises 18 to 20: the history. */
public final class HistoryTest {
    private static final int BAD = RetryStorm.BAD, STATE = RetryStorm.STATE, NONE = RetryStorm.NONE;
    private static final Check check = new Check("HistoryTest");

    public static void main(String[] args) {
        outOfRange();
        window();
        windowForgets();
        quiet();
        quietForgets();
        recovery();
        recoveryForgets();
        longest();
        check.end();
    }

    /**
     * One front worker, work of 2 ticks, 4 requests at tick 0: the queue is 3, 3, 2, 2, 1, 1, 0, 0, .. long at
     * the ends of the ticks, and there is a success in the ticks 1, 3, 5 and 7.
     */
    private static RetryStorm burst() {
        RetryStorm x = new RetryStorm();
        x.setServer(0, 1);
        x.set(3, 0, 50);
        x.set(3, 2, 60);
        x.set(3, 4, 40);
        x.surge(3, 4, 0, 1);
        return x;
    }

    private static void outOfRange() {
        check.part("out of range");
        RetryStorm x = burst();
        x.run(5);
        for (int wrong : new int[] {Integer.MIN_VALUE, -1, 17, Integer.MAX_VALUE}) {
            check.due("window(" + wrong + ", 1)", x.window(wrong, 1), BAD);
            check.due("quiet(" + wrong + ")", x.quiet(wrong), BAD);
            check.due("recovery(3, " + wrong + ")", x.recovery(3, wrong), BAD);
            check.due("recovery(" + wrong + ", 0)", x.recovery(wrong, 0), BAD);
        }
        check.due("window(4, 1)", x.window(4, 1), BAD);
        check.due("window(0, 0)", x.window(0, 0), BAD);
        check.due("window(0, -1)", x.window(0, -1), BAD);
        check.due("window(0, 65)", x.window(0, 65), BAD);
        check.due("window(4, 64), wrong and too early", x.window(4, 64), BAD);
        check.due("recovery(6, 0)", x.recovery(6, 0), BAD);
        check.due("window(0, 64)", x.window(0, 64), STATE);
        check.due("window(0, 6)", x.window(0, 6), STATE);
        check.due("window(0, 5)", x.window(0, 5), 11);
    }

    private static void window() {
        check.part("promise 18");
        RetryStorm x = burst();
        check.due("window(0, 1)", x.window(0, 1), STATE);
        x.run(8);
        int[] lengths = {3, 3, 2, 2, 1, 1, 0, 0};
        int[] successes = {0, 1, 0, 1, 0, 1, 0, 1};
        int[] sent = {4, 0, 0, 0, 0, 0, 0, 0};
        int[][] all = {lengths, successes, sent, new int[8]};
        for (int what = 0; what < 4; what++) {
            int sum = 0;
            for (int n = 1; n <= 8; n++) {
                sum += all[what][8 - n];
                check.due("window(" + what + ", " + n + ")", x.window(what, n), sum);
            }
            check.due("window(" + what + ", 9)", x.window(what, 9), STATE);
        }
        RetryStorm y = burst();
        y.set(3, 4, 3);
        y.set(3, 3, 1);
        y.setSwitch(2, true);
        y.run(4);
        // At tick 3 the second has worked one tick, and is cancelled like the two in the queue.
        check.due("wasted", y.window(3, 4), 1);
        check.due("wasted in the last tick", y.window(3, 1), 0);
        check.due("wasted in the last two", y.window(3, 2), 1);
    }

    private static void windowForgets() {
        check.part("64 ticks are remembered");
        RetryStorm x = burst();
        x.set(3, 0, 0);
        x.set(2, 0, 50);
        x.set(2, 8, 1);
        x.run(60);
        x.run(4);
        check.due("tick 0 is remembered", x.window(2, 64), 2);
        x.run(1);
        check.due("tick 0 is forgotten", x.window(2, 64), 1);
        x.run(60);
        check.due("ticks 61 to 124", x.window(1, 64), 1);
        check.due("ticks 100 to 124", x.window(2, 25), 1);
        check.due("ticks 101 to 124", x.window(2, 24), 0);
    }

    private static void quiet() {
        check.part("promise 19");
        RetryStorm x = burst();
        check.due("no tick", x.quiet(16), 0);
        x.run(10);
        int[] want = {4, 6, 8, 10, 10};
        for (int limit = 0; limit < want.length; limit++) {
            check.due("quiet(" + limit + ")", x.quiet(limit), want[limit]);
        }
        check.due("quiet(16)", x.quiet(16), 10);
        RetryStorm y = burst();
        y.run(1);
        check.due("the latest is too long", y.quiet(2), 0);
        check.due("the latest is not", y.quiet(3), 1);
    }

    private static void quietForgets() {
        check.part("quiet is at most 64");
        RetryStorm x = new RetryStorm();
        x.run(60);
        check.due("60", x.quiet(0), 60);
        x.run(4);
        check.due("64", x.quiet(0), 64);
        x.run(9);
        check.due("73", x.quiet(0), 64);
    }

    private static void recovery() {
        check.part("promise 20");
        RetryStorm x = burst();
        check.due("before its end", x.recovery(3, 16), NONE);
        check.due("no surge", x.recovery(0, 16), NONE);
        x.run(1);
        check.due("no tick that is not before its end", x.recovery(3, 16), NONE);
        x.run(1);
        check.due("recovery(3, 3)", x.recovery(3, 3), 0);
        check.due("recovery(3, 2)", x.recovery(3, 2), NONE);
        x.run(10);
        check.due("recovery(3, 16)", x.recovery(3, 16), 0);
        check.due("recovery(3, 2)", x.recovery(3, 2), 1);
        check.due("recovery(3, 1)", x.recovery(3, 1), 3);
        check.due("recovery(3, 0)", x.recovery(3, 0), 5);
        check.due("recovery(2, 0)", x.recovery(2, 0), NONE);
        x.surge(3, 1, 0, 3);
        check.due("the new surge's end is to come", x.recovery(3, 0), NONE);
        x.run(4);
        check.due("the new surge", x.recovery(3, 0), 0);
    }

    private static void recoveryForgets() {
        check.part("the first remembered tick");
        RetryStorm x = burst();
        x.run(60);
        x.run(5);
        // Tick 1, the end of the surge, is the oldest that is remembered; its queue was 3 long.
        check.due("65 ticks, limit 3", x.recovery(3, 3), 0);
        check.due("65 ticks, limit 2", x.recovery(3, 2), 1);
        x.run(1);
        check.due("66 ticks, limit 3", x.recovery(3, 3), 1);
        x.run(34);
        check.due("100 ticks", x.recovery(3, 0), 35);
    }

    private static void longest() {
        check.part("told(10)");
        RetryStorm x = burst();
        x.run(1);
        check.due("told(10)", x.told(10), 3);
        x.run(30);
        check.due("told(10) stays", x.told(10), 3);
        check.due("told(3)", x.told(3), 0);
    }
}
