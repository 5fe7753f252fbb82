/**
 * A host for grains: it wakes them when something comes for them, gives them one turn at a time,
 * keeps their state in a store and lets them go when they are idle. The words used here are those
 * of the document.
 */
public final class GrainHost {
    public static final int REFUSED = -1, FULL = -2, BUSY = -3;
    public static final int BROKEN = 101, CROWD = 102, LATE = 103, STOPPED = 104;
    public static final long NOTHING = 1L << 40;

    private static final int GRAINS = 32, KEYS = 8, KINDS = 4, METHODS = 4;
    private static final int MOST_STEPS = 8, MOST_REQUESTS = 30, MOST_OUTSIDE = 12;
    private static final int MOST_TURNS = 40, MOST_TICKS = 20, MOST_FAILS = 20, MOST_LIMIT = 100;
    private static final int MOST_FAIL_CODE = 99, MOST_WAKE_TICKS = 50, MOST_SKIP = 7;

    private static final int ADD = 0, TAKE = 1, KEEP = 2, CALL = 3, TELL = 4, SAVE = 5, YIELD = 6;
    private static final int FAIL = 7, TIMER = 8, REMIND = 9, LEAVE = 10, CATCH = 11, SKIP = 12;
    private static final int LET = 13, SET = 14;

    private static final int REMINDER_METHOD = 2, TIMER_METHOD = 3;

    /** What a step says of the turn it is in; a number above 0 is the code it fails with. */
    private static final int GOES_ON = 0, PAUSED = -1;

    /** A turn that goes on behind its last step ends its request without a code. */
    private static final int NO_CODE = GOES_ON;

    /** A coming grain stands in the line as this less its number, so that it is no request's. */
    private static final int COMING_GRAIN = -2;

    private final Kind[] kinds = new Kind[KINDS];
    private final Grain[] grains = new Grain[GRAINS];
    private final Outside[] outsides = new Outside[MOST_OUTSIDE];
    private final Requests requests = new Requests();
    private final Line queue = new Line();
    /** Rows that one call uses and the next one uses again, so that calls make no objects. */
    private final Grain[] toSettle = new Grain[MOST_REQUESTS];
    private final Request[] byNumber = new Request[MOST_REQUESTS];
    private int outsideCalls;
    private int clock;
    private int limit;
    private int age;
    private int storeFails;
    private int turns;
    private int arrivals;

    public GrainHost() {
        for (int k = 0; k < KINDS; k++) {
            kinds[k] = new Kind();
        }
        for (int g = 0; g < GRAINS; g++) {
            grains[g] = new Grain(g, kinds[g / KEYS]);
        }
        for (int c = 0; c < MOST_OUTSIDE; c++) {
            outsides[c] = new Outside();
        }
    }

    public boolean kind(int k, boolean reentrant, boolean kept) {
        if (!isWithin(k, 0, KINDS - 1) || requests.size > 0) {
            return false;
        }
        kinds[k].reentrant = reentrant;
        kinds[k].kept = kept;
        return true;
    }

    public int method(int k, int m, boolean open, boolean reading) {
        if (!isMethod(k, m)) {
            return REFUSED;
        }
        if (requests.size > 0) {
            return BUSY;
        }
        Method method = kinds[k].methods[m];
        int had = method.size;
        method.open = open;
        method.reading = reading;
        method.size = 0;
        return had;
    }

    public int step(int k, int m, int op, int a, int b) {
        if (!isMethod(k, m) || !isStep(op, a, b)) {
            return REFUSED;
        }
        if (requests.size > 0) {
            return BUSY;
        }
        Method method = kinds[k].methods[m];
        if (method.size >= MOST_STEPS) {
            return FULL;
        }
        method.add(op, a, b);
        return method.size;
    }

    public boolean limits(int limit, int age) {
        if (!isWithin(limit, 0, MOST_LIMIT) || !isWithin(age, 0, MOST_LIMIT)) {
            return false;
        }
        this.limit = limit;
        this.age = age;
        return true;
    }

    public int fails(int n) {
        if (!isWithin(n, 0, MOST_FAILS)) {
            return REFUSED;
        }
        int before = storeFails;
        storeFails = n;
        return before;
    }

    public int call(int g, int m, int arg) {
        if (!isWithin(g, 0, GRAINS - 1) || !isWithin(m, 0, METHODS - 1)) {
            return REFUSED;
        }
        if (outsideCalls >= MOST_OUTSIDE || requests.isFull()) {
            return FULL;
        }
        Outside outside = outsides[outsideCalls];
        Request made = make(grains[g], m, arg, 0);
        made.outside = outside;
        outside.open(made.number);
        outsideCalls++;
        return outsideCalls - 1;
    }

    public int forget() {
        for (int c = 0; c < outsideCalls; c++) {
            if (outsides[c].phase == Outside.PENDING) {
                return BUSY;
            }
        }
        int forgotten = outsideCalls;
        outsideCalls = 0;
        return forgotten;
    }

    public int run(int n) {
        if (!isWithin(n, 1, MOST_TURNS)) {
            return REFUSED;
        }
        int done = 0;
        while (done < n && queue.size > 0) {
            int entry = queue.take();
            if (entry <= COMING_GRAIN) {
                arrive(grains[COMING_GRAIN - entry]);
            } else {
                doSteps(requests.find(entry));
            }
            done++;
        }
        turns += done;
        return done;
    }

    public int tick(int n) {
        if (!isWithin(n, 1, MOST_TICKS)) {
            return REFUSED;
        }
        for (int i = 0; i < n; i++) {
            clock++;
            ringTimers();
            ringReminders();
            endLateAwaits();
            endLateOutsides();
            dropIdleGrains();
        }
        return clock;
    }

    public int restart() {
        int stopped = requests.size;
        requests.clear();
        queue.clear();
        for (int g = 0; g < GRAINS; g++) {
            grains[g].vanish();
        }
        for (int c = 0; c < outsideCalls; c++) {
            outsides[c].tell(STOPPED, 0);
        }
        return stopped;
    }

    public long ask(int c, int what) {
        if (!isWithin(c, 0, outsideCalls - 1)) {
            return NOTHING;
        }
        Outside outside = outsides[c];
        switch (what) {
            case 0:
                return outside.phase;
            case 1:
                return outside.value;
            case 2:
                return outside.number;
            default:
                return NOTHING;
        }
    }

    public int grain(int g, int what) {
        if (!isWithin(g, 0, GRAINS - 1)) {
            return REFUSED;
        }
        Grain grain = grains[g];
        switch (what) {
            case 0:
                return grain.leaving ? Grain.HERE + 1 : grain.phase;
            case 1:
                return grain.state;
            case 2:
                return requests.begunAt(grain);
            case 3:
                return requests.waitingAt(grain);
            case 4:
                return grain.timer;
            case 5:
                return grain.idle;
            case 6:
                return grain.stored;
            case 7:
                return grain.timesStored;
            case 8:
                return grain.toReminder;
            case 9:
                return grain.reminder;
            default:
                return REFUSED;
        }
    }

    public int request(int k, int what) {
        if (!isWithin(k, 0, requests.size - 1)) {
            return REFUSED;
        }
        Request request = requests.rows[k];
        switch (what) {
            case 0:
                return request.number;
            case 1:
                return request.phase;
            case 2:
                return request.grain.number;
            case 3:
                return request.methodNumber;
            case 4:
                return request.arg;
            case 5:
                return request.r;
            case 6:
                return request.next;
            case 7:
                return request.awaited == null ? -1 : request.awaited.number;
            case 8:
                return request.awaitTicks;
            case 9:
                return Integer.bitCount(request.chain);
            default:
                return REFUSED;
        }
    }

    public int line(int k) {
        return isWithin(k, 0, queue.size - 1) ? queue.at(k) : REFUSED;
    }

    public int count(int what) {
        switch (what) {
            case 0:
                return clock;
            case 1:
                return requests.made;
            case 2:
                return requests.size;
            case 3:
                return turns;
            case 4:
                return grainsHere();
            case 5:
                return arrivals;
            case 6:
                return queue.size;
            case 7:
                return outsideCalls;
            case 8:
                return storeFails;
            default:
                return REFUSED;
        }
    }

    private static boolean isWithin(int number, int least, int most) {
        return number >= least && number <= most;
    }

    private static boolean isMethod(int k, int m) {
        return isWithin(k, 0, KINDS - 1) && isWithin(m, 0, METHODS - 1);
    }

    private static boolean isStep(int op, int a, int b) {
        switch (op) {
            case CALL:
            case TELL:
                return isWithin(a, 0, GRAINS - 1) && isWithin(b, 0, METHODS - 1);
            case FAIL:
                return isWithin(a, 1, MOST_FAIL_CODE);
            case TIMER:
            case REMIND:
                return isWithin(a, 0, MOST_WAKE_TICKS);
            case SKIP:
                return isWithin(a, 1, MOST_SKIP);
            default:
                return isWithin(op, ADD, SET);
        }
    }

    private int grainsHere() {
        int here = 0;
        for (int g = 0; g < GRAINS; g++) {
            if (grains[g].phase == Grain.HERE) {
                here++;
            }
        }
        return here;
    }

    /** The one who asks has seen that there is room for a request. */
    private Request make(Grain grain, int m, int arg, int callersChain) {
        Request made = requests.add(grain, m, arg, callersChain);
        grain.idle = 0;
        if (grain.phase == Grain.ABSENT) {
            grain.phase = Grain.COMING;
            queue.add(COMING_GRAIN - grain.number);
        } else if (grain.phase == Grain.HERE) {
            lookAt(grain);
        }
        return made;
    }

    /** A request waits only once, when it is made, so those of a grain wait in order of number. */
    private void lookAt(Grain grain) {
        for (int i = 0; i < requests.size; i++) {
            Request request = requests.rows[i];
            if (request.grain == grain && request.phase == Request.WAITS
                    && requests.mayBegin(request)) {
                request.phase = Request.READY;
                queue.add(request.number);
            }
        }
    }

    private void arrive(Grain grain) {
        if (grain.kind.kept && !storeWorks()) {
            grain.vanish();
            failWaiting(grain);
            return;
        }
        grain.come();
        arrivals++;
        lookAt(grain);
    }

    private void failWaiting(Grain grain) {
        int standing = copyByNumber();
        for (int i = 0; i < standing; i++) {
            Request request = byNumber[i];
            if (request.grain == grain && request.phase == Request.WAITS) {
                end(request, BROKEN, 0);
            }
        }
    }

    /** What ends a request moves the others up, so one who ends some goes by this copy. */
    private int copyByNumber() {
        for (int i = 0; i < requests.size; i++) {
            byNumber[i] = requests.rows[i];
        }
        return requests.size;
    }

    private void doSteps(Request request) {
        if (request == null) {
            return;
        }
        Method method = request.method;
        int outcome = GOES_ON;
        for (int i = 0; i < MOST_STEPS && outcome == GOES_ON && request.next < method.size; i++) {
            int at = request.next;
            request.next = at + 1;
            outcome = doStep(request, method.ops[at], method.as[at], method.bs[at]);
        }
        if (outcome != PAUSED) {
            end(request, outcome, request.grain.state);
        }
    }

    private int doStep(Request request, int op, int a, int b) {
        Grain grain = request.grain;
        switch (op) {
            case ADD:
                grain.state += a;
                break;
            case TAKE:
                grain.state += request.arg;
                break;
            case KEEP:
                grain.state += request.r;
                break;
            case CALL:
                return sendCall(request, grains[a], b);
            case TELL:
                return sendTell(request, grains[a], b);
            case SAVE:
                return store(grain) ? GOES_ON : BROKEN;
            case YIELD:
                queue.add(request.number);
                return PAUSED;
            case FAIL:
                return a;
            case TIMER:
                grain.timer = a;
                break;
            case REMIND:
                grain.remindEach(a);
                break;
            case LEAVE:
                grain.leaving = true;
                break;
            case SKIP:
                request.next += request.r < 0 ? a : 0;
                break;
            case LET:
                request.r = grain.state;
                break;
            case SET:
                grain.state = a;
                break;
            default:
                break;
        }
        return GOES_ON;
    }

    private int sendCall(Request request, Grain grain, int m) {
        if (requests.isFull()) {
            return request.catches(CROWD) ? GOES_ON : CROWD;
        }
        Request made = make(grain, m, request.grain.state, request.chain);
        made.caller = request;
        request.await(made);
        return PAUSED;
    }

    private int sendTell(Request request, Grain grain, int m) {
        if (requests.isFull()) {
            return CROWD;
        }
        make(grain, m, request.grain.state, 0);
        return GOES_ON;
    }

    /**
     * Ends a request, and with it each caller that fails by that. A caller's end comes whole before
     * what is left of the end that brought it, so the grains are settled from the last one back.
     */
    private void end(Request first, int code, int result) {
        int ended = 0;
        Request ending = first;
        while (ending != null && ended < MOST_REQUESTS) {
            toSettle[ended] = ending.grain;
            ended++;
            requests.remove(ending);
            ending = tellCaller(ending, code, result);
        }
        for (int i = ended - 1; i >= 0; i--) {
            settle(toSettle[i]);
        }
    }

    /** The caller, if it fails by what it is told and has to end too, else null. */
    private Request tellCaller(Request ended, int code, int result) {
        Request caller = ended.caller;
        if (caller != null) {
            return goOn(caller, code, result) ? null : caller;
        }
        if (ended.outside != null) {
            ended.outside.tell(code, result);
        }
        return null;
    }

    /** Whether a request that awaited goes on with what came of its call; if not, it has to end. */
    private boolean goOn(Request request, int code, int result) {
        request.awaitNothing();
        if (code == NO_CODE) {
            request.r = result;
        } else if (!request.catches(code)) {
            return false;
        }
        request.phase = Request.READY;
        queue.add(request.number);
        return true;
    }

    private void settle(Grain grain) {
        if (grain.phase != Grain.HERE) {
            return;
        }
        lookAt(grain);
        if (grain.leaving && requests.noneAt(grain)) {
            go(grain);
        }
    }

    private void go(Grain grain) {
        if (grain.kind.kept) {
            store(grain);
        }
        grain.vanish();
    }

    private boolean store(Grain grain) {
        if (!storeWorks()) {
            return false;
        }
        grain.stored = grain.state;
        grain.timesStored++;
        return true;
    }

    /** Whether a reading or writing that comes now works; each one that fails is counted off. */
    private boolean storeWorks() {
        if (storeFails == 0) {
            return true;
        }
        storeFails--;
        return false;
    }

    private void ringTimers() {
        for (int g = 0; g < GRAINS; g++) {
            Grain grain = grains[g];
            if (grain.timer > 0) {
                grain.timer--;
                if (grain.timer == 0) {
                    wake(grain, TIMER_METHOD);
                }
            }
        }
    }

    private void ringReminders() {
        for (int g = 0; g < GRAINS; g++) {
            Grain grain = grains[g];
            if (grain.toReminder > 0) {
                grain.toReminder--;
                if (grain.toReminder == 0) {
                    grain.toReminder = grain.reminder;
                    wake(grain, REMINDER_METHOD);
                }
            }
        }
    }

    private void wake(Grain grain, int m) {
        if (!requests.isFull()) {
            make(grain, m, 0, 0);
        }
    }

    private boolean isLate(int ticks) {
        return limit > 0 && ticks >= limit;
    }

    private void endLateAwaits() {
        int standing = copyByNumber();
        for (int i = 0; i < standing; i++) {
            Request request = byNumber[i];
            if (request.phase == Request.AWAITS) {
                request.awaitTicks++;
                if (isLate(request.awaitTicks) && !goOnLate(request)) {
                    end(request, LATE, 0);
                }
            }
        }
    }

    /** The called one goes on too, and must not come back to this one, whose call is over. */
    private boolean goOnLate(Request request) {
        if (request.awaited != null) {
            request.awaited.caller = null;
        }
        return goOn(request, LATE, 0);
    }

    private void endLateOutsides() {
        for (int c = 0; c < outsideCalls; c++) {
            Outside outside = outsides[c];
            if (outside.phase == Outside.PENDING) {
                outside.ticks++;
                if (isLate(outside.ticks)) {
                    endOutside(outside);
                }
            }
        }
    }

    /** The request goes on, and must not tell a later call that is given this one's row. */
    private void endOutside(Outside outside) {
        Request request = requests.find(outside.number);
        if (request != null) {
            request.outside = null;
        }
        outside.tell(LATE, 0);
    }

    private void dropIdleGrains() {
        for (int g = 0; g < GRAINS; g++) {
            Grain grain = grains[g];
            if (grain.phase == Grain.HERE && requests.noneAt(grain)) {
                grain.idle++;
                if (age > 0 && grain.idle >= age) {
                    go(grain);
                }
            }
        }
    }

    private static final class Kind {
        private final Method[] methods = new Method[METHODS];
        private boolean reentrant;
        private boolean kept;

        private Kind() {
            for (int m = 0; m < METHODS; m++) {
                methods[m] = new Method();
            }
        }
    }

    private static final class Method {
        private final int[] ops = new int[MOST_STEPS];
        private final int[] as = new int[MOST_STEPS];
        private final int[] bs = new int[MOST_STEPS];
        private int size;
        private boolean open;
        private boolean reading;

        private void add(int op, int a, int b) {
            ops[size] = op;
            as[size] = a;
            bs[size] = b;
            size++;
        }
    }

    private static final class Grain {
        private static final int ABSENT = 0, COMING = 1, HERE = 2;

        private final int number;
        private final Kind kind;
        private int phase;
        private boolean leaving;
        private int state;
        private int timer;
        private int idle;
        /** The reminder and the store outlive the grain's being here. */
        private int reminder;
        private int toReminder;
        private int stored;
        private int timesStored;

        private Grain(int number, Kind kind) {
            this.number = number;
            this.kind = kind;
        }

        private void come() {
            vanish();
            phase = HERE;
            state = kind.kept ? stored : 0;
        }

        private void vanish() {
            phase = ABSENT;
            leaving = false;
            state = 0;
            timer = 0;
            idle = 0;
        }

        private void remindEach(int ticks) {
            reminder = ticks;
            toReminder = ticks;
        }
    }

    private static final class Request {
        private static final int WAITS = 0, READY = 1, AWAITS = 2, OVER = 3;

        private int number;
        private Grain grain;
        private int methodNumber;
        private Method method;
        private int arg;
        private int phase = OVER;
        private int r;
        private int next;
        /** The grains of the chain, a bit each. */
        private int chain;
        /** Its grain is in the chain of the request that made it by a call. */
        private boolean comesBack;
        private Request caller;
        private Outside outside;
        private Request awaited;
        private int awaitTicks;

        private void begin(int number, Grain grain, int m, int arg, int callersChain) {
            int own = 1 << grain.number;
            this.number = number;
            this.grain = grain;
            this.methodNumber = m;
            this.method = grain.kind.methods[m];
            this.arg = arg;
            phase = WAITS;
            r = 0;
            next = 0;
            chain = callersChain | own;
            comesBack = (callersChain & own) != 0;
            caller = null;
            outside = null;
            awaitNothing();
        }

        private void await(Request made) {
            phase = AWAITS;
            awaited = made;
        }

        private void awaitNothing() {
            awaited = null;
            awaitTicks = 0;
        }

        /** Asked behind a call that failed: whether a catch stands there; if so it is done. */
        private boolean catches(int code) {
            if (next >= method.size || method.ops[next] != CATCH) {
                return false;
            }
            r = -code;
            next++;
            return true;
        }
    }

    /**
     * The requests that are not over, by numbers; the rows behind them are free. As none of them is
     * over, those that do not wait are begun.
     */
    private static final class Requests {
        private final Request[] rows = new Request[MOST_REQUESTS];
        private int size;
        private int made;

        private Requests() {
            for (int i = 0; i < MOST_REQUESTS; i++) {
                rows[i] = new Request();
            }
        }

        private boolean isFull() {
            return size >= MOST_REQUESTS;
        }

        private Request add(Grain grain, int m, int arg, int callersChain) {
            Request request = rows[size];
            request.begin(made, grain, m, arg, callersChain);
            size++;
            made++;
            return request;
        }

        private void remove(Request request) {
            int kept = 0;
            for (int i = 0; i < size; i++) {
                if (rows[i] != request) {
                    rows[kept] = rows[i];
                    kept++;
                }
            }
            request.phase = Request.OVER;
            if (kept < size) {
                rows[kept] = request;
                size = kept;
            }
        }

        private void clear() {
            for (int i = 0; i < size; i++) {
                rows[i].phase = Request.OVER;
            }
            size = 0;
        }

        private Request find(int number) {
            for (int i = 0; i < size; i++) {
                if (rows[i].number == number) {
                    return rows[i];
                }
            }
            return null;
        }

        private int begunAt(Grain grain) {
            int begun = 0;
            for (int i = 0; i < size; i++) {
                if (rows[i].grain == grain && rows[i].phase != Request.WAITS) {
                    begun++;
                }
            }
            return begun;
        }

        private int waitingAt(Grain grain) {
            int waiting = 0;
            for (int i = 0; i < size; i++) {
                if (rows[i].grain == grain && rows[i].phase == Request.WAITS) {
                    waiting++;
                }
            }
            return waiting;
        }

        private boolean noneAt(Grain grain) {
            for (int i = 0; i < size; i++) {
                if (rows[i].grain == grain) {
                    return false;
                }
            }
            return true;
        }

        private boolean mayBegin(Request request) {
            Method method = request.method;
            if (request.grain.kind.reentrant || method.open || request.comesBack) {
                return true;
            }
            for (int i = 0; i < size; i++) {
                Request other = rows[i];
                boolean isBegunThere = other.grain == request.grain && other.phase != Request.WAITS;
                if (isBegunThere && !(method.reading && other.method.reading)) {
                    return false;
                }
            }
            return true;
        }
    }

    /** A request and a coming grain stand in the line once at most, so it is never full. */
    private static final class Line {
        private static final int ROOM = GRAINS + MOST_REQUESTS;

        private final int[] entries = new int[ROOM];
        private int first;
        private int size;

        private void add(int entry) {
            if (size < ROOM) {
                entries[(first + size) % ROOM] = entry;
                size++;
            }
        }

        /** The one who takes has seen that the line is not empty. */
        private int take() {
            int entry = entries[first];
            first = (first + 1) % ROOM;
            size--;
            return entry;
        }

        private int at(int k) {
            return entries[(first + k) % ROOM];
        }

        private void clear() {
            size = 0;
        }
    }

    private static final class Outside {
        private static final int PENDING = 0, HAS_RESULT = 1, FAILED = 2;

        private int phase;
        private int value;
        private int number;
        private int ticks;

        private void open(int number) {
            phase = PENDING;
            value = 0;
            this.number = number;
            ticks = 0;
        }

        private void tell(int code, int result) {
            if (phase == PENDING) {
                phase = code == NO_CODE ? HAS_RESULT : FAILED;
                value = code == NO_CODE ? result : code;
            }
        }
    }
}
