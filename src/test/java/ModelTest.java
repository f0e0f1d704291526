import java.util.Random;

/** Drives the class and the model with the same calls, drawn from fixed seeds, and compares each answer. */
public final class ModelTest {
    private static final int OBJECTS = 400, CALLS = 512;
    private static final int[] WILD = {Integer.MIN_VALUE, Integer.MIN_VALUE + 1, -9, -8, -2, -1, 64, 65, 100, 101,
        1 << 16, 1 << 30, Integer.MAX_VALUE - 1, Integer.MAX_VALUE};

    private final Check check = new Check("ModelTest");
    private Random random;
    private RetryStorm storm;
    private Model model;
    // How likely it is, in hundredths, that a property is set so that the servers are loaded.
    private int load;

    public static void main(String[] args) {
        ModelTest test = new ModelTest();
        for (int seed = 0; seed < OBJECTS; seed++) {
            test.one(seed);
        }
        test.check.end();
    }

    private void one(int seed) {
        check.part("seed " + seed);
        random = new Random(seed);
        storm = new RetryStorm();
        model = new Model();
        load = 30 + random.nextInt(70);
        for (int call = 0; call < CALLS; call += 2) {
            step();
            check.due("digest()", storm.digest(), model.digest());
        }
    }

    private int upTo(int most) {
        return random.nextInt(25) == 0 ? WILD[random.nextInt(WILD.length)] : random.nextInt(most + 2) - (random.nextInt(9) == 0 ? 1 : 0);
    }

    private void step() {
        int kind = random.nextInt(100);
        if (kind < 22) {
            setOne();
        } else if (kind < 45) {
            int n = random.nextInt(4) == 0 ? upTo(60) : 1 + random.nextInt(8);
            check.due("run(" + n + ")", storm.run(n), model.run(n));
        } else if (kind < 62) {
            configure(random.nextInt(4));
        } else if (kind < 67) {
            check.due("undo()", storm.undo(), model.undo());
        } else if (kind < 70) {
            int n = upTo(60);
            int d = upTo(3);
            check.due("ifRun(" + n + ", " + d + ")", storm.ifRun(n, d), model.ifRun(n, d));
        } else if (kind < 72) {
            int n = upTo(15);
            check.due("bestDiscipline(" + n + ")", storm.bestDiscipline(n), model.bestDiscipline(n));
        } else {
            ask(random.nextInt(11));
        }
    }

    private void setOne() {
        int client = upTo(5);
        int what = upTo(11);
        int v = upTo(60);
        if (random.nextInt(100) < load) {
            client = random.nextInt(3);
            int[][] busy = {{0, 1, 2}, {0, 3}, {5, 10, 25, 60}, {2, 4, 6}, {2, 4, 7, 12}, {1, 2, 4}, {1, 4, 9, 30},
                {0, 1, 2, 3}, {1, 3, 6}, {0, 2, 5, 9}, {0, 1, 3, 20}, {0, 1, 5, 10}};
            what = random.nextInt(12);
            v = busy[what][random.nextInt(busy[what].length)];
        }
        check.due("set(" + client + ", " + what + ", " + v + ")", storm.set(client, what, v), model.set(client, what, v));
    }

    private void configure(int kind) {
        int what = upTo(3);
        int v = random.nextInt(3) == 0 ? upTo(16) : 1 + random.nextInt(4);
        boolean on = random.nextBoolean();
        switch (kind) {
            case 0:
                check.due("setServer(" + what + ", " + v + ")", storm.setServer(what, v), model.setServer(what, v));
                break;
            case 1:
                check.due("setDiscipline(" + what + ")", storm.setDiscipline(what), model.setDiscipline(what));
                break;
            case 2:
                check.due("setSwitch(" + what + ", " + on + ")", storm.setSwitch(what, on), model.setSwitch(what, on));
                break;
            default:
                int client = upTo(5);
                int factor = upTo(4);
                int from = random.nextBoolean() ? upTo(100) : random.nextInt(5);
                int length = random.nextBoolean() ? upTo(100) : 1 + random.nextInt(9);
                check.due("surge(" + client + ", " + factor + ", " + from + ", " + length + ")",
                    storm.surge(client, factor, from, length), model.surge(client, factor, from, length));
        }
    }

    private void ask(int kind) {
        int a = upTo(16);
        int b = upTo(12);
        boolean back = random.nextBoolean();
        String args = "(" + a + ", " + b + ", " + back + ")";
        switch (kind) {
            case 0: check.due("property" + args, storm.property(a, b), model.property(a, b)); break;
            case 1: check.due("count" + args, storm.count(a, b), model.count(a, b)); break;
            case 2: check.due("succeededAt" + args, storm.succeededAt(a, b), model.succeededAt(a, b)); break;
            case 3: check.due("told" + args, storm.told(a), model.told(a)); break;
            case 4: check.due("live" + args, storm.live(a), model.live(a)); break;
            case 5:
                int number = random.nextBoolean() ? a : model.live(random.nextInt(16));
                check.due("request " + number + args, storm.request(number, b), model.request(number, b));
                break;
            case 6: check.due("queued" + args, storm.queued(back, a), model.queued(back, a)); break;
            case 7: check.due("atWorker" + args, storm.atWorker(back, b), model.atWorker(back, b)); break;
            case 8:
                int n = upTo(64);
                int what = upTo(3);
                check.due("window(" + what + ", " + n + ")", storm.window(what, n), model.window(what, n));
                break;
            case 9: check.due("quiet" + args, storm.quiet(a), model.quiet(a)); break;
            default:
                int client = upTo(5);
                check.due("recovery " + client + args, storm.recovery(client, a), model.recovery(client, a));
        }
    }
}
