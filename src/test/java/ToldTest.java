/** Promises 11 to 17 and 21: what is told. */
public final class ToldTest {
    private static final int BAD = RetryStorm.BAD, NONE = RetryStorm.NONE, ABANDONED = -8;
    private static final int[] WRONG = {Integer.MIN_VALUE, -9, -8, -2, -1, 16, 100, Integer.MAX_VALUE};
    private static final Check check = new Check("ToldTest");

    public static void main(String[] args) {
        outOfRange();
        counts();
        succeededAt();
        told();
        live();
        request();
        queued();
        atWorker();
        amplification();
        nothingChanges();
        check.end();
    }

    /** Six requests at tick 0, of which two are worked on for 3 ticks, two are queued and two are rejected. */
    private static RetryStorm busy() {
        RetryStorm x = new RetryStorm();
        x.setServer(1, 4);
        x.set(1, 0, 50);
        x.set(1, 8, 3);
        x.set(1, 5, 4);
        x.surge(1, 4, 0, 1);
        x.set(4, 0, 50);
        x.set(4, 8, 3);
        x.surge(4, 2, 0, 1);
        x.run(1);
        return x;
    }

    private static void outOfRange() {
        check.part("out of range");
        RetryStorm x = busy();
        for (int wrong : WRONG) {
            check.due("count(" + wrong + ", 0)", x.count(wrong, 0), BAD);
            check.due("count(0, " + wrong + ")", x.count(0, wrong), BAD);
            check.due("succeededAt(" + wrong + ", 1)", x.succeededAt(wrong, 1), BAD);
            check.due("succeededAt(0, " + wrong + ")", x.succeededAt(0, wrong), BAD);
            check.due("told(" + wrong + ")", x.told(wrong), BAD);
            check.due("request(0, " + wrong + ")", x.request(0, wrong), BAD);
            check.due("request(77, " + wrong + ")", x.request(77, wrong), BAD);
            check.due("request(" + wrong + ", 0)", x.request(wrong, 0), NONE);
            check.due("live(" + wrong + ")", x.live(wrong), wrong < 0 ? BAD : NONE);
            check.due("queued(false, " + wrong + ")", x.queued(false, wrong), wrong < 0 ? BAD : NONE);
            check.due("queued(true, " + wrong + ")", x.queued(true, wrong), wrong < 0 ? BAD : NONE);
            check.due("atWorker(false, " + wrong + ")", x.atWorker(false, wrong), BAD);
            check.due("atWorker(true, " + wrong + ")", x.atWorker(true, wrong), BAD);
        }
        check.due("count(6, 0)", x.count(6, 0), BAD);
        check.due("count(0, 8)", x.count(0, 8), BAD);
        check.due("succeededAt(6, 1)", x.succeededAt(6, 1), BAD);
        check.due("succeededAt(0, 0)", x.succeededAt(0, 0), BAD);
        check.due("succeededAt(0, 7)", x.succeededAt(0, 7), BAD);
        check.due("told(13)", x.told(13), BAD);
        check.due("request(0, 5)", x.request(0, 5), BAD);
        check.due("atWorker(false, 4)", x.atWorker(false, 4), BAD);
    }

    private static void counts() {
        check.part("promise 11");
        RetryStorm x = busy();
        int[] one = {4, 4, 0, 0, 0, 0, 0, 200};
        // Client 4 pays 10 twice, and has 10 back in between.
        int[] four = {2, 2, 0, 0, 2, 0, 0, 190};
        for (int what = 0; what < 8; what++) {
            check.due("count(1, " + what + ")", x.count(1, what), one[what]);
            check.due("count(4, " + what + ")", x.count(4, what), four[what]);
            check.due("count(5, " + what + ")", x.count(5, what), what == 7 ? 200 : 0);
        }
        // Requests 0 and 1 are answered at 3, 2 and 3 at 6, 4 and 5 (sent again at 2) at 9.
        check.due("run(2)", x.run(2), 2);
        check.due("run(3)", x.run(3), 2);
        check.due("run(3)", x.run(3), 2);
        int[] later = {2, 4, 2, 0, 2, 0, 0, 190};
        for (int what = 0; what < 8; what++) {
            check.due("later count(4, " + what + ")", x.count(4, what), later[what]);
        }
    }

    private static void succeededAt() {
        check.part("promise 12");
        RetryStorm x = busy();
        x.run(9);
        for (int attempt = 1; attempt <= 6; attempt++) {
            check.due("succeededAt(1, " + attempt + ")", x.succeededAt(1, attempt), attempt == 1 ? 4 : 0);
            check.due("succeededAt(4, " + attempt + ")", x.succeededAt(4, attempt), attempt == 2 ? 2 : 0);
            check.due("succeededAt(0, " + attempt + ")", x.succeededAt(0, attempt), 0);
        }
        RetryStorm y = new RetryStorm();
        y.setServer(0, 1);
        y.setServer(1, 1);
        y.set(0, 0, 1);
        y.set(0, 8, 12);
        y.set(0, 4, 40);
        y.set(0, 2, 60);
        y.run(2);
        y.set(0, 0, 0);
        y.set(5, 0, 50);
        y.set(5, 1, 2);
        y.set(5, 2, 60);
        y.set(5, 4, 40);
        y.set(5, 3, 6);
        y.set(5, 5, 1);
        y.set(5, 6, 3);
        y.run(38);
        check.due("the sixth attempt", y.succeededAt(5, 6), 1);
        check.due("the fifth attempt", y.succeededAt(5, 5), 0);
    }

    private static void told() {
        check.part("promise 13");
        RetryStorm x = busy();
        int[] first = {1, 6, 2, 2, 0, 2, 0, 0, 0, 2, 2, 0, 4};
        for (int what = 0; what <= 12; what++) {
            check.due("told(" + what + ")", x.told(what), first[what]);
        }
        x.setDiscipline(2);
        x.run(3);
        // Requests 2 and 3 have worked one tick; 4 and 5 came to the queue at tick 2.
        int[] then = {4, 4, 0, 2, 0, 2, 0, 6, 0, 2, 4, 2, 4};
        for (int what = 0; what <= 12; what++) {
            check.due("then told(" + what + ")", x.told(what), then[what]);
        }
    }

    private static void live() {
        check.part("promise 14");
        RetryStorm x = busy();
        for (int i = 0; i < 6; i++) {
            check.due("live(" + i + ")", x.live(i), i);
        }
        check.due("live(6)", x.live(6), NONE);
        x.run(2);
        for (int i = 0; i < 4; i++) {
            check.due("later live(" + i + ")", x.live(i), i + 2);
        }
        check.due("later live(4)", x.live(4), NONE);
    }

    private static void request() {
        check.part("promise 15");
        RetryStorm x = busy();
        int[][] want = {{1, 20, 1, 2, 10}, {1, 20, 1, 2, 10}, {1, 20, 1, 1, 10}, {1, 20, 1, 1, 10}, {4, 20, 1, 0, 2},
            {4, 20, 1, 0, 2}};
        for (int number = 0; number < want.length; number++) {
            for (int what = 0; what < 5; what++) {
                check.due("request(" + number + ", " + what + ")", x.request(number, what), want[number][what]);
            }
        }
        check.due("request(6, 0)", x.request(6, 0), NONE);
        x.run(2);
        check.due("request(0, 0), which has succeeded", x.request(0, 0), NONE);
        check.due("request(4, 2)", x.request(4, 2), 2);
        check.due("request(4, 3)", x.request(4, 3), 1);
        check.due("request(4, 4)", x.request(4, 4), 12);
        // The deadline comes before the timeout.
        RetryStorm y = new RetryStorm();
        y.set(0, 0, 50);
        y.set(0, 2, 7);
        y.run(1);
        check.due("request(0, 4)", y.request(0, 4), 7);
    }

    private static void queued() {
        check.part("promise 16");
        RetryStorm x = busy();
        check.due("queued(false, 0)", x.queued(false, 0), 2);
        check.due("queued(false, 1)", x.queued(false, 1), 3);
        check.due("queued(false, 2)", x.queued(false, 2), NONE);
        check.due("queued(true, 0)", x.queued(true, 0), NONE);
        RetryStorm y = new RetryStorm();
        y.setServer(0, 4);
        y.set(0, 0, 50);
        y.set(0, 8, 1);
        y.set(0, 9, 12);
        y.surge(0, 4, 0, 1);
        y.run(2);
        check.due("queued(true, 0)", y.queued(true, 0), 1);
        check.due("queued(true, 1)", y.queued(true, 1), 2);
        check.due("queued(true, 2)", y.queued(true, 2), 3);
        check.due("queued(true, 3)", y.queued(true, 3), NONE);
        y.run(8);
        check.due("abandoned in the back queue", y.queued(true, 2), ABANDONED);
    }

    private static void atWorker() {
        check.part("promise 17");
        RetryStorm x = busy();
        int[] front = {0, 1, NONE, NONE};
        for (int worker = 0; worker < 4; worker++) {
            check.due("atWorker(false, " + worker + ")", x.atWorker(false, worker), front[worker]);
            check.due("atWorker(true, " + worker + ")", x.atWorker(true, worker), NONE);
        }
        RetryStorm y = new RetryStorm();
        y.setServer(0, 4);
        y.setServer(2, 4);
        y.set(0, 0, 50);
        y.set(0, 8, 1);
        y.set(0, 9, 12);
        y.surge(0, 4, 0, 1);
        y.run(2);
        for (int worker = 0; worker < 4; worker++) {
            check.due("y: atWorker(false, " + worker + ")", y.atWorker(false, worker), worker);
            check.due("y: atWorker(true, " + worker + ")", y.atWorker(true, worker), worker);
        }
        y.run(8);
        for (int worker = 0; worker < 4; worker++) {
            check.due("abandoned at a front worker", y.atWorker(false, worker), ABANDONED);
            check.due("abandoned at a back worker", y.atWorker(true, worker), ABANDONED);
        }
    }

    private static void amplification() {
        check.part("promise 21");
        RetryStorm x = busy();
        check.due("amplification()", x.amplification(), 100);
        x.run(2);
        check.due("8 for 6", x.amplification(), 133);
        RetryStorm y = new RetryStorm();
        y.run(60);
        check.due("no request", y.amplification(), 0);
    }

    private static void nothingChanges() {
        check.part("telling changes nothing");
        RetryStorm x = busy();
        long before = x.digest();
        for (int i = -3; i < 20; i++) {
            x.count(i, i);
            x.property(i, i);
            x.succeededAt(i, i);
            x.told(i);
            x.live(i);
            x.request(i, 3);
            x.queued(true, i);
            x.queued(false, i);
            x.atWorker(true, i);
            x.atWorker(false, i);
            x.window(0, i);
            x.quiet(i);
            x.recovery(1, i);
            x.amplification();
        }
        check.due("digest()", x.digest(), before);
    }
}
