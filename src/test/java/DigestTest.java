/** Promise 23: the hash, computed a second time from what the other methods tell. */
public final class DigestTest {
    private static final Check check = new Check("DigestTest");

    public static void main(String[] args) {
        RetryStorm x = new RetryStorm();
        check.due("digest() of a new object", x.digest(), of(x));
        x.setServer(0, 4);
        x.setServer(3, 2);
        x.setDiscipline(2);
        for (int client = 0; client < 6; client++) {
            x.set(client, 0, 2 + client);
            x.set(client, 4, 6);
            x.set(client, 7, client % 4);
            x.set(client, 8, 1 + client);
            x.set(client, 9, 4 - client % 3);
        }
        boolean[] seen = new boolean[4];
        long last = 0;
        for (int i = 0; i < 60; i++) {
            x.run(1);
            long h = x.digest();
            check.due("digest() at tick " + (i + 1), h, of(x));
            check.holds("it changes", h != last);
            check.due("digest() once more", x.digest(), h);
            last = h;
            seen[0] |= x.queued(false, 0) == -8;
            seen[1] |= x.told(4) > 0;
            seen[2] |= x.atWorker(true, 0) == -8;
            seen[3] |= x.told(2) > 0;
        }
        for (boolean kind : seen) {
            check.holds("each kind of value was hashed", kind);
        }
        check.end();
    }

    /** The hash, told by the other methods. */
    static long of(RetryStorm x) {
        long h = 18520;
        for (int what = 0; what <= 12; what++) {
            h = 31 * h + x.told(what);
        }
        for (int client = 0; client < 6; client++) {
            for (int what = 0; what <= 11; what++) {
                h = 31 * h + x.property(client, what);
            }
            for (int what = 0; what <= 7; what++) {
                h = 31 * h + x.count(client, what);
            }
            for (int attempt = 1; attempt <= 6; attempt++) {
                h = 31 * h + x.succeededAt(client, attempt);
            }
        }
        for (int i = 0; x.live(i) != RetryStorm.NONE; i++) {
            h = 31 * h + x.live(i);
            for (int what = 0; what <= 4; what++) {
                h = 31 * h + x.request(x.live(i), what);
            }
        }
        for (int i = 0; x.queued(false, i) != RetryStorm.NONE; i++) {
            h = 31 * h + x.queued(false, i);
        }
        for (int i = 0; x.queued(true, i) != RetryStorm.NONE; i++) {
            h = 31 * h + x.queued(true, i);
        }
        for (int worker = 0; worker < 4; worker++) {
            h = 31 * h + x.atWorker(false, worker);
        }
        for (int worker = 0; worker < 4; worker++) {
            h = 31 * h + x.atWorker(true, worker);
        }
        return 31 * h + x.amplification();
    }
}
