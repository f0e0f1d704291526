import java.util.Arrays;

/** A simulation of retry storms between clients, a front server and a back server. */
public final class RetryStorm {
    public static final int BAD = -1, STATE = -2, NONE = -9;

    private static final int ABANDONED = -8;

    private static final int CLIENTS = 6, PROPERTIES = 12, WORKERS = 4, LONGEST_QUEUE = 16;
    private static final int MOST_LIVE = 16, MOST_RECORDED = 4, REMEMBERED_TICKS = 64;
    private static final int PRICE = 10;

    private static final int PERIOD = 0, PHASE = 1, PATIENCE = 2, ATTEMPTS = 3, TIMEOUT = 4, BASE = 5, CAP = 6,
            JITTER = 7, FRONT_WORK = 8, BACK_WORK = 9, BUDGET = 10, REFUND = 11;
    private static final int[] LEAST = {0, 0, 1, 1, 1, 1, 1, 0, 1, 0, 0, 0};
    private static final int[] MOST = {50, 50, 60, 6, 40, 16, 64, 3, 12, 12, 20, 10};
    private static final int[] AT_FIRST = {0, 0, 20, 3, 10, 2, 16, 0, 2, 0, 20, 10};

    // Columns of the tallies. The successes with attempt 1 to 6 stand from SUCCEEDED_AT + 1 on.
    private static final int CREATED = 0, SENT = 1, SUCCEEDED = 2, FAILED = 3, REJECTED = 4, TIMED_OUT = 5,
            HOPELESS = 6, UNITS = 7, SUCCEEDED_AT = 7, TALLIES = 14;

    // Rows of the servers' properties and of the switches.
    private static final int FRONT_WORKERS = 0, FRONT_CAPACITY = 1, BACK_WORKERS = 2, BACK_CAPACITY = 3, SERVERS = 4;
    private static final int DISPLACING = 0, PASSING = 1, CANCELLING = 2, SWITCHES = 3;
    private static final int DISCIPLINES = 4;

    // Columns of a surge; one without a factor is none.
    private static final int FACTOR = 0, FIRST = 1, END = 2, SURGE = 3;

    // Columns of a live request. DUE is when it is sent, if it waits, and else when its attempt expires.
    private static final int NUMBER = 0, CLIENT = 1, DEADLINE = 2, TRIED = 3, WAITS = 4, DUE = 5, DELAY = 6,
            LIVE_REQUEST = 7;

    // Columns of an attempt. OF is its request's number, or ABANDONED, or NONE at a worker without an attempt;
    // PLACE is kept at the front workers alone.
    private static final int OF = 0, EXPIRES = 1, FRONT_LEFT = 2, BACK_LEFT = 3, WORKED = 4, PLACE = 5, ATTEMPT = 6;
    private static final int WAITING = 0, IN_FRONT_QUEUE = 1, AT_FRONT_WORKER = 2, IN_BACK_QUEUE = 3,
            AT_BACK_WORKER = 4;

    // Columns of the history.
    private static final int LENGTHS = 0, SUCCESSES = 1, SENDINGS = 2, WASTE = 3, HISTORY = 4;

    private final State state = new State();
    private final State trial = new State();
    private final State[] recorded = new State[MOST_RECORDED];
    private int records;

    public RetryStorm() {
        for (int i = 0; i < recorded.length; i++) {
            recorded[i] = new State();
        }
    }

    // ---- configuration

    public int set(int client, int what, int v) {
        if (!isClient(client) || what < 0 || what >= PROPERTIES || v < LEAST[what] || v > MOST[what]) {
            return BAD;
        }
        keepState();
        int before = state.clients.get(client, what);
        state.clients.put(client, what, v);
        if (what == BUDGET) {
            state.tallies.put(client, UNITS, PRICE * v);
        }
        return before;
    }

    public int property(int client, int what) {
        return isClient(client) && what >= 0 && what < PROPERTIES ? state.clients.get(client, what) : BAD;
    }

    public int setServer(int what, int v) {
        if (what < 0 || what >= SERVERS || v < 1 || v > mostOfServer(what)) {
            return BAD;
        }
        if (isInUseBeyond(what, v)) {
            return STATE;
        }
        keepState();
        int before = state.servers.get(what, 0);
        state.servers.put(what, 0, v);
        return before;
    }

    public int setDiscipline(int d) {
        if (d < 0 || d >= DISCIPLINES) {
            return BAD;
        }
        keepState();
        int before = state.discipline;
        state.discipline = d;
        return before;
    }

    public int setSwitch(int which, boolean on) {
        if (which < 0 || which >= SWITCHES) {
            return BAD;
        }
        keepState();
        int before = state.switches.get(which, 0);
        state.switches.put(which, 0, on ? 1 : 0);
        return before;
    }

    public int surge(int client, int factor, int from, int length) {
        if (!isClient(client) || factor < 1 || factor > 4 || from < 0 || from > 100 || length < 1 || length > 100) {
            return BAD;
        }
        keepState();
        int first = state.clock + from;
        state.surges.put(client, FACTOR, factor);
        state.surges.put(client, FIRST, first);
        state.surges.put(client, END, first + length);
        return first + length;
    }

    // ---- running

    public int run(int ticks) {
        if (ticks < 1 || ticks > 60) {
            return BAD;
        }
        keepState();
        int before = state.total(SUCCEEDED);
        for (int i = 0; i < ticks; i++) {
            Ticks.pass(state);
        }
        return state.total(SUCCEEDED) - before;
    }

    public int ifRun(int ticks, int discipline) {
        if (ticks < 1 || ticks > 60 || discipline < 0 || discipline >= DISCIPLINES) {
            return BAD;
        }
        return goodWorkWith(ticks, discipline);
    }

    public int bestDiscipline(int ticks) {
        if (ticks < 1 || ticks > 15) {
            return BAD;
        }
        int best = 0;
        int most = -1;
        for (int discipline = 0; discipline < DISCIPLINES; discipline++) {
            int good = goodWorkWith(ticks, discipline);
            if (good > most) {
                most = good;
                best = discipline;
            }
        }
        return best;
    }

    // ---- what is told

    public int count(int client, int what) {
        return isClient(client) && what >= CREATED && what <= UNITS ? state.tallies.get(client, what) : BAD;
    }

    public int succeededAt(int client, int attempt) {
        if (!isClient(client) || attempt < 1 || attempt > MOST[ATTEMPTS]) {
            return BAD;
        }
        return state.tallies.get(client, SUCCEEDED_AT + attempt);
    }

    public int told(int what) {
        switch (what) {
            case 0: return state.clock;
            case 1: return state.requests.size();
            case 2: return state.requests.rowsWith(WAITS, 1);
            case 3: return state.queue.size();
            case 4: return state.backQueue.size();
            case 5: return WORKERS - state.workers.rowsWith(OF, NONE);
            case 6: return WORKERS - state.backWorkers.rowsWith(0, NONE);
            case 7: return state.good;
            case 8: return state.wasted;
            case 9: return state.pendingWork();
            case 10: return state.longest;
            case 11: return state.discipline;
            case 12: return records;
            default: return BAD;
        }
    }

    public int live(int i) {
        return i < 0 ? BAD : state.requests.get(i, NUMBER);
    }

    public int request(int number, int what) {
        if (what < 0 || what > 4) {
            return BAD;
        }
        int row = state.requests.find(NUMBER, number);
        if (row == NONE) {
            return NONE;
        }
        switch (what) {
            case 0: return state.requests.get(row, CLIENT);
            case 1: return state.requests.get(row, DEADLINE);
            case 2: return state.requests.get(row, TRIED);
            case 3: return state.placeOf(number);
            default: return state.requests.get(row, DUE);
        }
    }

    public int queued(boolean back, int i) {
        if (i < 0) {
            return BAD;
        }
        return back ? state.workers.get(state.backQueue.get(i, 0), OF) : state.queue.get(i, OF);
    }

    public int atWorker(boolean back, int worker) {
        if (worker < 0 || worker >= WORKERS) {
            return BAD;
        }
        return state.workers.get(back ? state.backWorkers.get(worker, 0) : worker, OF);
    }

    public int window(int what, int n) {
        if (what < 0 || what >= HISTORY || n < 1 || n > REMEMBERED_TICKS) {
            return BAD;
        }
        if (state.clock < n) {
            return STATE;
        }
        int sum = 0;
        for (int back = 1; back <= n; back++) {
            sum += state.ofTick(state.clock - back, what);
        }
        return sum;
    }

    public int quiet(int limit) {
        if (limit < 0 || limit > LONGEST_QUEUE) {
            return BAD;
        }
        int remembered = Math.min(REMEMBERED_TICKS, state.clock);
        int ticks = 0;
        while (ticks < remembered && state.ofTick(state.clock - 1 - ticks, LENGTHS) <= limit) {
            ticks++;
        }
        return ticks;
    }

    public int recovery(int client, int limit) {
        if (!isClient(client) || limit < 0 || limit > LONGEST_QUEUE) {
            return BAD;
        }
        if (state.surges.get(client, FACTOR) == 0) {
            return NONE;
        }
        int end = state.surges.get(client, END);
        int oldest = Math.max(0, state.clock - REMEMBERED_TICKS);
        for (int tick = Math.max(end, oldest); tick < state.clock; tick++) {
            if (state.ofTick(tick, LENGTHS) <= limit) {
                return tick - end;
            }
        }
        return NONE;
    }

    public int amplification() {
        int created = state.total(CREATED);
        return created > 0 ? (int) (100L * state.total(SENT) / created) : 0;
    }

    public int undo() {
        if (records < 1 || records > recorded.length) {
            return STATE;
        }
        records--;
        State latest = recorded[records];
        if (latest != null) {
            state.copyFrom(latest);
        }
        return records;
    }

    public long digest() {
        long h = 18520;
        for (int what = 0; what <= 12; what++) {
            h = 31 * h + told(what);
        }
        h = hashOfClients(h);
        for (int i = 0; i < state.requests.size(); i++) {
            int number = live(i);
            h = 31 * h + number;
            for (int what = 0; what <= 4; what++) {
                h = 31 * h + request(number, what);
            }
        }
        h = hashOfServer(h, state.queue.size(), state.backQueue.size());
        return 31 * h + amplification();
    }

    private long hashOfClients(long start) {
        long h = start;
        for (int client = 0; client < CLIENTS; client++) {
            for (int what = 0; what < PROPERTIES; what++) {
                h = 31 * h + property(client, what);
            }
            for (int what = CREATED; what <= UNITS; what++) {
                h = 31 * h + count(client, what);
            }
            for (int attempt = 1; attempt <= MOST[ATTEMPTS]; attempt++) {
                h = 31 * h + succeededAt(client, attempt);
            }
        }
        return h;
    }

    private long hashOfServer(long start, int frontLength, int backLength) {
        long h = start;
        for (int i = 0; i < frontLength; i++) {
            h = 31 * h + queued(false, i);
        }
        for (int i = 0; i < backLength; i++) {
            h = 31 * h + queued(true, i);
        }
        for (int worker = 0; worker < WORKERS; worker++) {
            h = 31 * h + atWorker(false, worker);
        }
        for (int worker = 0; worker < WORKERS; worker++) {
            h = 31 * h + atWorker(true, worker);
        }
        return h;
    }

    private static boolean isClient(int client) {
        return client >= 0 && client < CLIENTS;
    }

    private static int mostOfServer(int what) {
        return what == FRONT_WORKERS || what == BACK_WORKERS ? WORKERS : LONGEST_QUEUE;
    }

    private boolean isInUseBeyond(int what, int v) {
        switch (what) {
            case FRONT_WORKERS: return isAnyTakenFrom(state.workers, v);
            case FRONT_CAPACITY: return state.queue.size() > v;
            case BACK_WORKERS: return isAnyTakenFrom(state.backWorkers, v);
            default: return state.backQueue.size() > v;
        }
    }

    private static boolean isAnyTakenFrom(Table workers, int first) {
        for (int worker = first; worker < WORKERS; worker++) {
            if (workers.get(worker, OF) != NONE) {
                return true;
            }
        }
        return false;
    }

    private int goodWorkWith(int ticks, int discipline) {
        trial.copyFrom(state);
        trial.discipline = discipline;
        for (int i = 0; i < ticks; i++) {
            Ticks.pass(trial);
        }
        return trial.good - state.good;
    }

    // The states are made once and written over, so that no call makes an object.
    private void keepState() {
        if (records == MOST_RECORDED) {
            dropOldestRecord();
        }
        if (records >= 0 && records < recorded.length) {
            State next = recorded[records];
            if (next != null) {
                next.copyFrom(state);
                records++;
            }
        }
    }

    private void dropOldestRecord() {
        State oldest = recorded[0];
        for (int i = 1; i < recorded.length; i++) {
            recorded[i - 1] = recorded[i];
        }
        recorded[recorded.length - 1] = oldest;
        records--;
    }

    /**
     * Rows of numbers. It alone touches cells, and looks at each index before: a cell that is not there
     * reads as NONE, and writing to it does nothing.
     */
    private static final class Table {
        private final int width;
        private final int[] cells;
        private int size;

        Table(int rows, int width, int size) {
            this.width = width;
            this.cells = new int[Math.max(0, rows * width)];
            this.size = size;
        }

        int size() {
            return size;
        }

        int get(int row, int column) {
            if (row < 0 || row >= size || column < 0 || column >= width) {
                return NONE;
            }
            int cell = row * width + column;
            return cell >= 0 && cell < cells.length ? cells[cell] : NONE;
        }

        void put(int row, int column, int v) {
            if (row < 0 || row >= size || column < 0 || column >= width) {
                return;
            }
            int cell = row * width + column;
            if (cell >= 0 && cell < cells.length) {
                cells[cell] = v;
            }
        }

        void add(int row, int column, int v) {
            put(row, column, get(row, column) + v);
        }

        void putInAll(int column, int v) {
            for (int row = 0; row < size; row++) {
                put(row, column, v);
            }
        }

        /** Returns the new last row, all of it 0, or NONE if there is no room. */
        int append() {
            int from = size * width;
            int to = from + width;
            if (from < 0 || to < from || to > cells.length) {
                return NONE;
            }
            Arrays.fill(cells, from, to, 0);
            size++;
            return size - 1;
        }

        void drop(int row) {
            if (row < 0 || row >= size) {
                return;
            }
            int to = row * width;
            int from = to + width;
            int moved = size * width - from;
            if (to >= 0 && moved >= 0 && from + moved <= cells.length) {
                System.arraycopy(cells, from, cells, to, moved);
            }
            size--;
        }

        /** Returns the first row with v in the column, or NONE. */
        int find(int column, int v) {
            for (int row = 0; row < size; row++) {
                if (get(row, column) == v) {
                    return row;
                }
            }
            return NONE;
        }

        int rowsWith(int column, int v) {
            int rows = 0;
            for (int row = 0; row < size; row++) {
                rows += get(row, column) == v ? 1 : 0;
            }
            return rows;
        }

        int sumOf(int column) {
            int sum = 0;
            for (int row = 0; row < size; row++) {
                sum += get(row, column);
            }
            return sum;
        }

        void copyRow(int row, Table other, int otherRow) {
            for (int column = 0; column < width; column++) {
                put(row, column, other.get(otherRow, column));
            }
        }

        void copyFrom(Table other) {
            System.arraycopy(other.cells, 0, cells, 0, Math.min(other.cells.length, cells.length));
            size = other.size;
        }
    }

    /** Everything but the recorded states. */
    private static final class State {
        final Table clients = new Table(CLIENTS, PROPERTIES, CLIENTS);
        final Table tallies = new Table(CLIENTS, TALLIES, CLIENTS);
        final Table surges = new Table(CLIENTS, SURGE, CLIENTS);
        final Table servers = new Table(SERVERS, 1, SERVERS);
        final Table switches = new Table(SWITCHES, 1, SWITCHES);
        // In ascending order of the numbers, as only the newest request is ever added.
        final Table requests = new Table(MOST_LIVE, LIVE_REQUEST, 0);
        final Table queue = new Table(LONGEST_QUEUE, ATTEMPT, 0);
        // An attempt that has called the back server still holds its front worker, so it stays in this row;
        // the back server's tables name the front worker.
        final Table workers = new Table(WORKERS, ATTEMPT, WORKERS);
        final Table backQueue = new Table(LONGEST_QUEUE, 1, 0);
        final Table backWorkers = new Table(WORKERS, 1, WORKERS);
        final Table history = new Table(REMEMBERED_TICKS, HISTORY, REMEMBERED_TICKS);
        int discipline;
        int clock;
        int seed = 1;
        int numbers;
        int good;
        int wasted;
        int longest;

        State() {
            for (int what = 0; what < PROPERTIES; what++) {
                clients.putInAll(what, AT_FIRST[what]);
            }
            tallies.putInAll(UNITS, PRICE * AT_FIRST[BUDGET]);
            servers.put(FRONT_WORKERS, 0, 2);
            servers.put(FRONT_CAPACITY, 0, 8);
            servers.put(BACK_WORKERS, 0, 1);
            servers.put(BACK_CAPACITY, 0, 4);
            workers.putInAll(OF, NONE);
            backWorkers.putInAll(0, NONE);
        }

        void copyFrom(State other) {
            clients.copyFrom(other.clients);
            tallies.copyFrom(other.tallies);
            surges.copyFrom(other.surges);
            servers.copyFrom(other.servers);
            switches.copyFrom(other.switches);
            requests.copyFrom(other.requests);
            queue.copyFrom(other.queue);
            workers.copyFrom(other.workers);
            backQueue.copyFrom(other.backQueue);
            backWorkers.copyFrom(other.backWorkers);
            history.copyFrom(other.history);
            discipline = other.discipline;
            clock = other.clock;
            seed = other.seed;
            numbers = other.numbers;
            good = other.good;
            wasted = other.wasted;
            longest = other.longest;
        }

        int total(int tally) {
            return tallies.sumOf(tally);
        }

        // Work is done at workers alone, so no attempt in the front queue has any.
        int pendingWork() {
            int pending = 0;
            for (int worker = 0; worker < WORKERS; worker++) {
                pending += workers.get(worker, OF) != NONE ? workers.get(worker, WORKED) : 0;
            }
            return pending;
        }

        int placeOf(int number) {
            if (queue.find(OF, number) != NONE) {
                return IN_FRONT_QUEUE;
            }
            int worker = workers.find(OF, number);
            return worker != NONE ? workers.get(worker, PLACE) : WAITING;
        }

        /** Returns the next request after a number that waits (or else has an attempt) until now, or NONE. */
        int nextDue(int number, boolean waits) {
            for (int row = 0; row < requests.size(); row++) {
                boolean isNext = requests.get(row, NUMBER) > number;
                if (isNext && requests.get(row, WAITS) == (waits ? 1 : 0) && requests.get(row, DUE) <= clock) {
                    return requests.get(row, NUMBER);
                }
            }
            return NONE;
        }

        int ofTick(int tick, int what) {
            return history.get(Math.floorMod(tick, REMEMBERED_TICKS), what);
        }
    }

    /** The steps of a tick, in their order. */
    private static final class Ticks {
        static void pass(State s) {
            int successes = s.total(SUCCEEDED);
            int sendings = s.total(SENT);
            int wasted = s.wasted;
            Clients.createRequests(s);
            Clients.sendWaiting(s);
            Servers.fillBackWorkers(s);
            Servers.fillFrontWorkers(s);
            Servers.work(s);
            s.clock++;
            Servers.endBackWork(s);
            Servers.endFrontWork(s);
            Clients.abandonExpired(s);
            int row = Math.floorMod(s.clock - 1, REMEMBERED_TICKS);
            s.history.put(row, LENGTHS, s.queue.size());
            s.history.put(row, SUCCESSES, s.total(SUCCEEDED) - successes);
            s.history.put(row, SENDINGS, s.total(SENT) - sendings);
            s.history.put(row, WASTE, s.wasted - wasted);
            s.longest = Math.max(s.longest, s.queue.size());
        }
    }

    /** What the clients do: create, send, abandon, and try again or not. */
    private static final class Clients {
        static void createRequests(State s) {
            for (int client = 0; client < CLIENTS; client++) {
                int births = births(s, client);
                for (int i = 0; i < births; i++) {
                    int number = create(s, client);
                    fail(s, send(s, number), REJECTED);
                }
            }
        }

        static void sendWaiting(State s) {
            int number = NONE;
            for (int i = 0; i < MOST_LIVE; i++) {
                number = s.nextDue(number, true);
                if (number == NONE) {
                    return;
                }
                fail(s, send(s, number), REJECTED);
            }
        }

        static void abandonExpired(State s) {
            int number = NONE;
            for (int i = 0; i < MOST_LIVE; i++) {
                number = s.nextDue(number, false);
                if (number == NONE) {
                    return;
                }
                Servers.abandon(s, number);
                fail(s, number, TIMED_OUT);
            }
        }

        static int births(State s, int client) {
            int period = s.clients.get(client, PERIOD);
            int since = s.clock - s.clients.get(client, PHASE);
            if (period < 1 || since < 0 || since % period != 0) {
                return 0;
            }
            boolean surging = s.clock >= s.surges.get(client, FIRST) && s.clock < s.surges.get(client, END);
            return surging ? s.surges.get(client, FACTOR) : 1;
        }

        /** Returns the number of the new request, or NONE if it is lost. */
        static int create(State s, int client) {
            s.tallies.add(client, CREATED, 1);
            int units = s.tallies.get(client, UNITS) + s.clients.get(client, REFUND);
            s.tallies.put(client, UNITS, Math.min(units, PRICE * s.clients.get(client, BUDGET)));
            int row = s.requests.append();
            if (row == NONE) {
                s.tallies.add(client, FAILED, 1);
                return NONE;
            }
            int number = s.numbers;
            s.numbers++;
            s.requests.put(row, NUMBER, number);
            s.requests.put(row, CLIENT, client);
            s.requests.put(row, DEADLINE, s.clock + s.clients.get(client, PATIENCE));
            return number;
        }

        /** Returns the request whose attempt is rejected by this (it may be ABANDONED), or NONE. */
        static int send(State s, int number) {
            int row = s.requests.find(NUMBER, number);
            if (row == NONE) {
                return NONE;
            }
            int client = s.requests.get(row, CLIENT);
            int timeout = s.clients.get(client, TIMEOUT);
            s.tallies.add(client, SENT, 1);
            s.requests.add(row, TRIED, 1);
            s.requests.put(row, WAITS, 0);
            s.requests.put(row, DUE, Math.min(s.clock + timeout, s.requests.get(row, DEADLINE)));
            int rejected = NONE;
            if (s.queue.size() >= s.servers.get(FRONT_CAPACITY, 0)) {
                if (s.switches.get(DISPLACING, 0) == 0) {
                    return number;
                }
                rejected = s.queue.get(0, OF);
                s.queue.drop(0);
            }
            Servers.enqueue(s, row);
            return rejected;
        }

        /** Decides whether a request whose attempt has failed waits or fails; NONE and ABANDONED are no requests. */
        static void fail(State s, int number, int reason) {
            int row = s.requests.find(NUMBER, number);
            if (row == NONE) {
                return;
            }
            int client = s.requests.get(row, CLIENT);
            s.tallies.add(client, reason, 1);
            boolean mayRetry = s.requests.get(row, TRIED) < s.clients.get(client, ATTEMPTS)
                    && s.tallies.get(client, UNITS) >= PRICE;
            int delay = mayRetry ? delay(s, row, client) : 0;
            int due = s.clock + delay;
            if (!mayRetry || due >= s.requests.get(row, DEADLINE)) {
                s.tallies.add(client, FAILED, 1);
                s.requests.drop(row);
                return;
            }
            s.tallies.add(client, UNITS, -PRICE);
            s.requests.put(row, WAITS, 1);
            s.requests.put(row, DUE, due);
            s.requests.put(row, DELAY, delay);
        }

        static int delay(State s, int row, int client) {
            int base = s.clients.get(client, BASE);
            int cap = s.clients.get(client, CAP);
            int raw = Math.max(1, Math.min(base << (s.requests.get(row, TRIED) - 1), cap));
            switch (s.clients.get(client, JITTER)) {
                case 1: return 1 + draw(s) % raw;
                case 2: return raw - raw / 2 + draw(s) % (raw / 2 + 1);
                case 3:
                    // A delay is never 0, so 0 tells that there was none.
                    int before = s.requests.get(row, DELAY);
                    int d = Math.max(0, before == 0 ? base : before);
                    return Math.min(base + draw(s) % (2 * d + 1), cap);
                default: return raw;
            }
        }

        static int draw(State s) {
            s.seed = s.seed * 1103515245 + 12345;
            return (s.seed >>> 16) & 32767;
        }
    }

    /** What the servers do with the attempts. */
    private static final class Servers {
        /** Puts the attempt that a request has just made into the front queue. */
        static void enqueue(State s, int request) {
            int client = s.requests.get(request, CLIENT);
            int row = s.queue.append();
            s.queue.put(row, OF, s.requests.get(request, NUMBER));
            s.queue.put(row, EXPIRES, s.requests.get(request, DUE));
            s.queue.put(row, FRONT_LEFT, s.clients.get(client, FRONT_WORK));
            s.queue.put(row, BACK_LEFT, s.clients.get(client, BACK_WORK));
        }

        static void fillBackWorkers(State s) {
            int workers = s.servers.get(BACK_WORKERS, 0);
            for (int worker = 0; worker < workers; worker++) {
                for (int left = s.backQueue.size(); left > 0 && s.backWorkers.get(worker, 0) == NONE; left--) {
                    Clients.fail(s, takeAtBack(s, worker), HOPELESS);
                }
            }
        }

        static void fillFrontWorkers(State s) {
            int workers = s.servers.get(FRONT_WORKERS, 0);
            for (int worker = 0; worker < workers; worker++) {
                for (int left = s.queue.size(); left > 0 && s.workers.get(worker, OF) == NONE; left--) {
                    Clients.fail(s, takeAtFront(s, worker, nextInQueue(s)), HOPELESS);
                }
            }
        }

        /** Returns the request whose attempt was removed as hopeless (it may be ABANDONED), or NONE. */
        static int takeAtBack(State s, int worker) {
            int front = s.backQueue.get(0, 0);
            s.backQueue.drop(0);
            if (isHopeless(s, s.workers, front)) {
                return waste(s, front);
            }
            s.backWorkers.put(worker, 0, front);
            s.workers.put(front, PLACE, AT_BACK_WORKER);
            return NONE;
        }

        /** Returns the request whose attempt was removed as hopeless (it may be ABANDONED), or NONE. */
        static int takeAtFront(State s, int worker, int row) {
            int hopeless = isHopeless(s, s.queue, row) ? s.queue.get(row, OF) : NONE;
            if (hopeless == NONE) {
                s.workers.copyRow(worker, s.queue, row);
                s.workers.put(worker, PLACE, AT_FRONT_WORKER);
            }
            s.queue.drop(row);
            return hopeless;
        }

        static int nextInQueue(State s) {
            int length = s.queue.size();
            switch (s.discipline) {
                case 1: return length - 1;
                case 2: return 2 * length > s.servers.get(FRONT_CAPACITY, 0) ? length - 1 : 0;
                case 3: return firstToExpire(s.queue);
                default: return 0;
            }
        }

        static int firstToExpire(Table queue) {
            int first = 0;
            for (int row = 1; row < queue.size(); row++) {
                if (queue.get(row, EXPIRES) < queue.get(first, EXPIRES)) {
                    first = row;
                }
            }
            return first;
        }

        // At the back server no front work is left, so that one sum serves both servers.
        static boolean isHopeless(State s, Table attempts, int row) {
            int left = Math.max(0, attempts.get(row, EXPIRES) - s.clock);
            int needed = attempts.get(row, FRONT_LEFT) + attempts.get(row, BACK_LEFT);
            return s.switches.get(PASSING, 0) == 1 && left < needed;
        }

        static void work(State s) {
            for (int worker = 0; worker < WORKERS; worker++) {
                int place = s.workers.get(worker, PLACE);
                boolean has = s.workers.get(worker, OF) != NONE;
                if (has && (place == AT_FRONT_WORKER || place == AT_BACK_WORKER)) {
                    s.workers.add(worker, place == AT_FRONT_WORKER ? FRONT_LEFT : BACK_LEFT, -1);
                    s.workers.add(worker, WORKED, 1);
                }
            }
        }

        static void endBackWork(State s) {
            for (int worker = 0; worker < WORKERS; worker++) {
                int front = s.backWorkers.get(worker, 0);
                if (front != NONE && s.workers.get(front, BACK_LEFT) == 0) {
                    s.backWorkers.put(worker, 0, NONE);
                    answer(s, front);
                }
            }
        }

        static void endFrontWork(State s) {
            for (int worker = 0; worker < WORKERS; worker++) {
                boolean works = s.workers.get(worker, OF) != NONE && s.workers.get(worker, PLACE) == AT_FRONT_WORKER;
                if (works && s.workers.get(worker, FRONT_LEFT) == 0) {
                    if (s.workers.get(worker, BACK_LEFT) == 0) {
                        answer(s, worker);
                    } else {
                        Clients.fail(s, callBack(s, worker), REJECTED);
                    }
                }
            }
        }

        /** Returns the request whose attempt the back server rejects (it may be ABANDONED), or NONE. */
        static int callBack(State s, int worker) {
            if (s.backQueue.size() >= s.servers.get(BACK_CAPACITY, 0)) {
                return waste(s, worker);
            }
            int row = s.backQueue.append();
            s.backQueue.put(row, 0, worker);
            s.workers.put(worker, PLACE, IN_BACK_QUEUE);
            return NONE;
        }

        static void answer(State s, int worker) {
            int row = s.requests.find(NUMBER, s.workers.get(worker, OF));
            if (row == NONE) {
                waste(s, worker);
                return;
            }
            int client = s.requests.get(row, CLIENT);
            s.good += s.workers.get(worker, WORKED);
            s.tallies.add(client, SUCCEEDED, 1);
            s.tallies.add(client, SUCCEEDED_AT + s.requests.get(row, TRIED), 1);
            s.requests.drop(row);
            s.workers.put(worker, OF, NONE);
        }

        /** Returns the request whose attempt leaves the worker, or ABANDONED. */
        static int waste(State s, int worker) {
            int number = s.workers.get(worker, OF);
            s.wasted += s.workers.get(worker, WORKED);
            s.workers.put(worker, OF, NONE);
            return number;
        }

        static void abandon(State s, int number) {
            int row = s.queue.find(OF, number);
            int worker = s.workers.find(OF, number);
            if (s.switches.get(CANCELLING, 0) == 0) {
                s.queue.put(row, OF, ABANDONED);
                s.workers.put(worker, OF, ABANDONED);
                return;
            }
            s.queue.drop(row);
            if (worker != NONE) {
                s.backQueue.drop(s.backQueue.find(0, worker));
                s.backWorkers.put(s.backWorkers.find(0, worker), 0, NONE);
                waste(s, worker);
            }
        }
    }
}
