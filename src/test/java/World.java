import java.util.ArrayList;
import java.util.Arrays;
import java.util.Comparator;
import java.util.List;

/**
 * The document's simulation, written a second time with objects and lists and without any way back:
 * it is made anew and driven again where the class undoes or tries.
 */
final class World {
    static final int[] LOW = {0, 0, 1, 1, 1, 1, 1, 0, 1, 0, 0, 0};
    static final int[] HIGH = {50, 50, 60, 6, 40, 16, 64, 3, 12, 12, 20, 10};

    static final class Client {
        final int[] p = {0, 0, 20, 3, 10, 2, 16, 0, 2, 0, 20, 10};
        int created, sent, succeeded, failed, rejected, timedOut, hopeless;
        int units = 200;
        final int[] at = new int[7];
        boolean hasSurge;
        int factor, first, end;
    }

    static final class Request {
        int number, client, deadline, tries;
        int wakes = -1;
        Integer lastDelay;
        Attempt attempt;
    }

    static final class Attempt {
        Request request;
        boolean abandoned;
        int expires, frontWork, backWork, frontDone, backDone;
        boolean calledBack;

        int done() {
            return frontDone + backDone;
        }

        int shown() {
            return abandoned ? -8 : request.number;
        }
    }

    static final class Row {
        int length, successes, sent, wasted;
    }

    final Client[] clients = new Client[6];
    final int[] server = {2, 8, 1, 4};
    final boolean[] on = new boolean[3];
    int discipline;
    int clock, x = 1, next, good, wasted, greatest;
    final List<Request> live = new ArrayList<>();
    final List<Attempt> frontQueue = new ArrayList<>();
    final List<Attempt> backQueue = new ArrayList<>();
    final Attempt[] front = new Attempt[4];
    final Attempt[] back = new Attempt[4];
    final List<Row> history = new ArrayList<>();
    Row row = new Row();

    World() {
        for (int c = 0; c < 6; c++) {
            clients[c] = new Client();
        }
    }

    void tick() {
        row = new Row();
        for (int c = 0; c < 6; c++) {
            Client k = clients[c];
            if (k.p[0] != 0 && clock >= k.p[1] && (clock - k.p[1]) % k.p[0] == 0) {
                int n = k.hasSurge && clock >= k.first && clock <= k.end - 1 ? k.factor : 1;
                while (n-- > 0) {
                    create(c);
                }
            }
        }
        for (Request r : new ArrayList<>(live)) {
            if (live.contains(r) && r.attempt == null && r.wakes == clock) {
                send(r);
            }
        }
        for (int w = 0; w < server[2]; w++) {
            while (back[w] == null && !backQueue.isEmpty()) {
                Attempt a = backQueue.remove(0);
                if (on[1] && left(a) < a.backWork) {
                    front[frontOf(a)] = null;
                    gone(a, 6);
                } else {
                    back[w] = a;
                }
            }
        }
        for (int w = 0; w < server[0]; w++) {
            while (front[w] == null && !frontQueue.isEmpty()) {
                Attempt a = choose();
                frontQueue.remove(a);
                if (on[1] && left(a) < a.frontWork + a.backWork) {
                    gone(a, 6);
                } else {
                    front[w] = a;
                }
            }
        }
        for (Attempt a : back) {
            if (a != null) {
                a.backDone++;
            }
        }
        for (Attempt a : front) {
            if (a != null && !a.calledBack) {
                a.frontDone++;
            }
        }
        clock++;
        for (int w = 0; w < 4; w++) {
            if (back[w] != null && back[w].backDone == back[w].backWork) {
                Attempt a = back[w];
                back[w] = null;
                front[frontOf(a)] = null;
                answered(a);
            }
        }
        for (int w = 0; w < 4; w++) {
            Attempt a = front[w];
            if (a != null && !a.calledBack && a.frontDone == a.frontWork) {
                if (a.backWork == 0) {
                    front[w] = null;
                    answered(a);
                } else if (backQueue.size() == server[3]) {
                    front[w] = null;
                    gone(a, 4);
                } else {
                    a.calledBack = true;
                    backQueue.add(a);
                }
            }
        }
        for (Request r : new ArrayList<>(live)) {
            if (r.attempt != null && r.attempt.expires == clock) {
                abandon(r);
            }
        }
        row.length = frontQueue.size();
        greatest = Math.max(greatest, row.length);
        history.add(row);
    }

    private void create(int c) {
        Client k = clients[c];
        k.created++;
        k.units = Math.min(10 * k.p[10], k.units + k.p[11]);
        if (live.size() == 16) {
            k.failed++;
            return;
        }
        Request r = new Request();
        r.number = next++;
        r.client = c;
        r.deadline = clock + k.p[2];
        live.add(r);
        send(r);
    }

    private void send(Request r) {
        Client k = clients[r.client];
        k.sent++;
        row.sent++;
        r.tries++;
        r.wakes = -1;
        Attempt a = new Attempt();
        a.request = r;
        a.expires = Math.min(clock + k.p[4], r.deadline);
        a.frontWork = k.p[8];
        a.backWork = k.p[9];
        r.attempt = a;
        if (frontQueue.size() == server[1]) {
            if (!on[0]) {
                gone(a, 4);
                return;
            }
            gone(frontQueue.remove(0), 4);
        }
        frontQueue.add(a);
    }

    private Attempt choose() {
        boolean last = discipline == 1 || discipline == 2 && frontQueue.size() > server[1] / 2.0;
        if (discipline == 3) {
            return frontQueue.stream().min(Comparator.comparingInt(a -> a.expires)).get();
        }
        return frontQueue.get(last ? frontQueue.size() - 1 : 0);
    }

    private int left(Attempt a) {
        return a.abandoned ? 0 : a.expires - clock;
    }

    private int frontOf(Attempt a) {
        return Arrays.asList(front).indexOf(a);
    }

    private void answered(Attempt a) {
        if (a.abandoned) {
            waste(a);
            return;
        }
        good += a.done();
        row.successes++;
        clients[a.request.client].succeeded++;
        clients[a.request.client].at[a.request.tries]++;
        live.remove(a.request);
    }

    private void waste(Attempt a) {
        wasted += a.done();
        row.wasted += a.done();
    }

    private void gone(Attempt a, int reason) {
        waste(a);
        if (!a.abandoned) {
            failed(a.request, reason);
        }
    }

    private void abandon(Request r) {
        Attempt a = r.attempt;
        a.abandoned = true;
        if (on[2]) {
            frontQueue.remove(a);
            backQueue.remove(a);
            for (int w = 0; w < 4; w++) {
                front[w] = front[w] == a ? null : front[w];
                back[w] = back[w] == a ? null : back[w];
            }
            waste(a);
        }
        failed(r, 5);
    }

    private void failed(Request r, int reason) {
        Client k = clients[r.client];
        k.rejected += reason == 4 ? 1 : 0;
        k.timedOut += reason == 5 ? 1 : 0;
        k.hopeless += reason == 6 ? 1 : 0;
        r.attempt = null;
        if (r.tries < k.p[3] && k.units >= 10) {
            int delay = delay(r, k.p);
            if (clock + delay < r.deadline) {
                k.units -= 10;
                r.wakes = clock + delay;
                r.lastDelay = delay;
                return;
            }
        }
        k.failed++;
        live.remove(r);
    }

    private int delay(Request r, int[] p) {
        int raw = p[5];
        for (int i = 1; i < r.tries; i++) {
            raw *= 2;
        }
        raw = Math.min(raw, p[6]);
        if (p[7] == 0) {
            return raw;
        }
        x = x * 1103515245 + 12345;
        int n = x >>> 16 & 32767;
        if (p[7] == 1) {
            return 1 + n % raw;
        }
        if (p[7] == 2) {
            return raw - raw / 2 + n % (raw / 2 + 1);
        }
        int d = r.lastDelay == null ? p[5] : r.lastDelay;
        return Math.min(p[6], p[5] + n % (2 * d + 1));
    }

    Request find(int number) {
        for (Request r : live) {
            if (r.number == number) {
                return r;
            }
        }
        return null;
    }

    int where(Request r) {
        if (r.attempt == null) {
            return 0;
        }
        if (frontQueue.contains(r.attempt)) {
            return 1;
        }
        if (backQueue.contains(r.attempt)) {
            return 3;
        }
        return Arrays.asList(back).contains(r.attempt) ? 4 : 2;
    }
}
