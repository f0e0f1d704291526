import java.util.ArrayList;
import java.util.List;
import java.util.function.ToIntFunction;

/** The face of the document over a World: a way back is a new World that is driven again up to there. */
final class Model {
    private static final int BAD = -1, STATE = -2, NONE = -9;

    private final List<ToIntFunction<World>> done = new ArrayList<>();
    private World w = new World();
    private int records;

    private World again(int steps) {
        World fresh = new World();
        for (int i = 0; i < steps; i++) {
            done.get(i).applyAsInt(fresh);
        }
        return fresh;
    }

    private int change(ToIntFunction<World> step) {
        done.add(step);
        records = Math.min(4, records + 1);
        return step.applyAsInt(w);
    }

    private static boolean out(int v, int low, int high) {
        return v < low || v > high;
    }

    int set(int client, int what, int v) {
        if (out(client, 0, 5) || out(what, 0, 11) || out(v, World.LOW[what], World.HIGH[what])) {
            return BAD;
        }
        return change(x -> {
            int before = x.clients[client].p[what];
            x.clients[client].p[what] = v;
            if (what == 10) {
                x.clients[client].units = 10 * v;
            }
            return before;
        });
    }

    int property(int client, int what) {
        return out(client, 0, 5) || out(what, 0, 11) ? BAD : w.clients[client].p[what];
    }

    int setServer(int what, int v) {
        if (out(what, 0, 3) || out(v, 1, what % 2 == 0 ? 4 : 16)) {
            return BAD;
        }
        if (what == 1 && w.frontQueue.size() > v || what == 3 && w.backQueue.size() > v) {
            return STATE;
        }
        for (int k = v; k < 4; k++) {
            if (what == 0 && w.front[k] != null || what == 2 && w.back[k] != null) {
                return STATE;
            }
        }
        return change(x -> {
            int before = x.server[what];
            x.server[what] = v;
            return before;
        });
    }

    int setDiscipline(int d) {
        return out(d, 0, 3) ? BAD : change(x -> {
            int before = x.discipline;
            x.discipline = d;
            return before;
        });
    }

    int setSwitch(int which, boolean on) {
        return out(which, 0, 2) ? BAD : change(x -> {
            int before = x.on[which] ? 1 : 0;
            x.on[which] = on;
            return before;
        });
    }

    int surge(int client, int factor, int from, int length) {
        if (out(client, 0, 5) || out(factor, 1, 4) || out(from, 0, 100) || out(length, 1, 100)) {
            return BAD;
        }
        return change(x -> {
            World.Client c = x.clients[client];
            c.hasSurge = true;
            c.factor = factor;
            c.first = x.clock + from;
            c.end = c.first + length;
            return c.end;
        });
    }

    private static int ticks(World x, int ticks) {
        int before = 0;
        int after = 0;
        for (World.Client c : x.clients) {
            before += c.succeeded;
        }
        for (int i = 0; i < ticks; i++) {
            x.tick();
        }
        for (World.Client c : x.clients) {
            after += c.succeeded;
        }
        return after - before;
    }

    int run(int ticks) {
        return out(ticks, 1, 60) ? BAD : change(x -> ticks(x, ticks));
    }

    int ifRun(int ticks, int discipline) {
        if (out(ticks, 1, 60) || out(discipline, 0, 3)) {
            return BAD;
        }
        World trial = again(done.size());
        trial.discipline = discipline;
        ticks(trial, ticks);
        return trial.good - w.good;
    }

    int bestDiscipline(int ticks) {
        if (out(ticks, 1, 15)) {
            return BAD;
        }
        int best = 0;
        for (int d = 1; d < 4; d++) {
            best = ifRun(ticks, d) > ifRun(ticks, best) ? d : best;
        }
        return best;
    }

    int count(int client, int what) {
        if (out(client, 0, 5) || out(what, 0, 7)) {
            return BAD;
        }
        World.Client c = w.clients[client];
        return new int[] {c.created, c.sent, c.succeeded, c.failed, c.rejected, c.timedOut, c.hopeless, c.units}[what];
    }

    int succeededAt(int client, int attempt) {
        return out(client, 0, 5) || out(attempt, 1, 6) ? BAD : w.clients[client].at[attempt];
    }

    int told(int what) {
        if (out(what, 0, 12)) {
            return BAD;
        }
        int waiting = 0;
        for (World.Request r : w.live) {
            waiting += r.attempt == null ? 1 : 0;
        }
        int fronts = 0;
        int backs = 0;
        int pending = 0;
        for (int i = 0; i < 4; i++) {
            fronts += w.front[i] != null ? 1 : 0;
            backs += w.back[i] != null ? 1 : 0;
            pending += w.front[i] != null ? w.front[i].done() : 0;
        }
        return new int[] {w.clock, w.live.size(), waiting, w.frontQueue.size(), w.backQueue.size(), fronts, backs,
            w.good, w.wasted, pending, w.greatest, w.discipline, records}[what];
    }

    int live(int i) {
        return i < 0 ? BAD : i < w.live.size() ? w.live.get(i).number : NONE;
    }

    int request(int number, int what) {
        if (out(what, 0, 4)) {
            return BAD;
        }
        World.Request r = w.find(number);
        if (r == null) {
            return NONE;
        }
        int tick = r.attempt == null ? r.wakes : r.attempt.expires;
        return new int[] {r.client, r.deadline, r.tries, w.where(r), tick}[what];
    }

    int queued(boolean back, int i) {
        List<World.Attempt> queue = back ? w.backQueue : w.frontQueue;
        return i < 0 ? BAD : i < queue.size() ? queue.get(i).shown() : NONE;
    }

    int atWorker(boolean back, int worker) {
        if (out(worker, 0, 3)) {
            return BAD;
        }
        World.Attempt a = back ? w.back[worker] : w.front[worker];
        return a == null ? NONE : a.shown();
    }

    private int ofTick(int tick, int what) {
        World.Row row = w.history.get(tick);
        return new int[] {row.length, row.successes, row.sent, row.wasted}[what];
    }

    int window(int what, int n) {
        if (out(what, 0, 3) || out(n, 1, 64)) {
            return BAD;
        }
        if (w.history.size() < n) {
            return STATE;
        }
        int sum = 0;
        for (int t = w.clock - n; t < w.clock; t++) {
            sum += ofTick(t, what);
        }
        return sum;
    }

    int quiet(int limit) {
        if (out(limit, 0, 16)) {
            return BAD;
        }
        int ticks = 0;
        for (int t = w.clock - 1; t >= 0 && ticks < 64 && ofTick(t, 0) <= limit; t--) {
            ticks++;
        }
        return ticks;
    }

    int recovery(int client, int limit) {
        if (out(client, 0, 5) || out(limit, 0, 16)) {
            return BAD;
        }
        World.Client c = w.clients[client];
        for (int t = 0; c.hasSurge && t < w.clock; t++) {
            if (t >= w.clock - 64 && t >= c.end && ofTick(t, 0) <= limit) {
                return t - c.end;
            }
        }
        return NONE;
    }

    int amplification() {
        long sent = 0;
        long created = 0;
        for (World.Client c : w.clients) {
            sent += c.sent;
            created += c.created;
        }
        return created == 0 ? 0 : (int) (100 * sent / created);
    }

    int undo() {
        if (records == 0) {
            return STATE;
        }
        records--;
        done.remove(done.size() - 1);
        w = again(done.size());
        return records;
    }

    long digest() {
        List<Integer> values = new ArrayList<>();
        for (int i = 0; i < 13; i++) {
            values.add(told(i));
        }
        for (int c = 0; c < 6; c++) {
            for (int i = 0; i < 12; i++) {
                values.add(property(c, i));
            }
            for (int i = 0; i < 8; i++) {
                values.add(count(c, i));
            }
            for (int i = 1; i < 7; i++) {
                values.add(succeededAt(c, i));
            }
        }
        for (World.Request r : w.live) {
            values.add(r.number);
            for (int i = 0; i < 5; i++) {
                values.add(request(r.number, i));
            }
        }
        for (int side = 0; side < 2; side++) {
            for (int i = 0; queued(side == 1, i) != NONE; i++) {
                values.add(queued(side == 1, i));
            }
        }
        for (int side = 0; side < 2; side++) {
            for (int i = 0; i < 4; i++) {
                values.add(atWorker(side == 1, i));
            }
        }
        values.add(amplification());
        long h = 18520;
        for (int v : values) {
            h = 31 * h + v;
        }
        return h;
    }
}
