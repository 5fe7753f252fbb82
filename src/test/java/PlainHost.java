import java.util.ArrayList;
import java.util.HashSet;
import java.util.List;
import java.util.Set;

/**
 * The document written down word by word, with lists and recursion and without a thought of room:
 * what GrainHost answers is compared with it.
 */
final class PlainHost implements Face {
    private enum Is { WAITS, READY, AWAITS, OVER }

    private enum At { ABSENT, COMING, HERE }

    private static final class Step {
        int op;
        int a;
        int b;
    }

    private static final class Way {
        boolean open;
        boolean reading;
        List<Step> steps = new ArrayList<>();
    }

    private static final class Sort {
        boolean reentrant;
        boolean kept;
        Way[] ways = {new Way(), new Way(), new Way(), new Way()};
    }

    private static final class Seed {
        int g;
        At at = At.ABSENT;
        int state;
        int timer;
        boolean leaving;
        int idle;
        int stored;
        int times;
        int each;
        int left;
    }

    private static final class Task {
        int number;
        Seed grain;
        int m;
        int arg;
        int r;
        int next;
        Is is = Is.WAITS;
        Task madeByCallOf;
        Task caller;
        Task awaits;
        int ticks;
        Asked outside;

        Set<Integer> chain() {
            Set<Integer> all = madeByCallOf == null ? new HashSet<>() : madeByCallOf.chain();
            all.add(grain.g);
            return all;
        }
    }

    private static final class Asked {
        Task task;
        boolean pending = true;
        boolean failed;
        int value;
        int ticks;
    }

    private final Sort[] sorts = {new Sort(), new Sort(), new Sort(), new Sort()};
    private final Seed[] seeds = new Seed[32];
    private final List<Task> standing = new ArrayList<>();
    private final List<Object> line = new ArrayList<>();
    private final List<Asked> calls = new ArrayList<>();
    private int made;
    private int clock;
    private int limit;
    private int age;
    private int fails;
    private int turns;
    private int came;

    PlainHost() {
        for (int g = 0; g < 32; g++) {
            seeds[g] = new Seed();
            seeds[g].g = g;
        }
    }

    private Sort sortOf(Seed grain) {
        return sorts[grain.g / 8];
    }

    private Way wayOf(Task task) {
        return sortOf(task.grain).ways[task.m];
    }

    private boolean crowded() {
        return standing.size() >= 30;
    }

    private List<Task> begunAt(Seed grain) {
        List<Task> begun = new ArrayList<>();
        for (Task t : standing) {
            if (t.grain == grain && (t.is == Is.READY || t.is == Is.AWAITS)) {
                begun.add(t);
            }
        }
        return begun;
    }

    private List<Task> waitingAt(Seed grain) {
        List<Task> waiting = new ArrayList<>();
        for (Task t : standing) {
            if (t.grain == grain && t.is == Is.WAITS) {
                waiting.add(t);
            }
        }
        return waiting;
    }

    private Task make(int g, int m, int arg, Task madeByCallOf) {
        Task task = new Task();
        task.number = made++;
        task.grain = seeds[g];
        task.m = m;
        task.arg = arg;
        task.madeByCallOf = madeByCallOf;
        task.caller = madeByCallOf;
        standing.add(task);
        task.grain.idle = 0;
        if (task.grain.at == At.ABSENT) {
            task.grain.at = At.COMING;
            line.add(task.grain);
        } else if (task.grain.at == At.HERE) {
            look(task.grain);
        }
        return task;
    }

    private void look(Seed grain) {
        for (Task t : waitingAt(grain)) {
            List<Task> begun = begunAt(grain);
            boolean reading = wayOf(t).reading;
            for (Task other : begun) {
                reading = reading && wayOf(other).reading;
            }
            boolean back = t.madeByCallOf != null && t.madeByCallOf.chain().contains(grain.g);
            if (begun.isEmpty() || sortOf(grain).reentrant || wayOf(t).open || reading || back) {
                t.is = Is.READY;
                line.add(t);
            }
        }
    }

    private boolean storeFails() {
        if (fails > 0) {
            fails--;
            return true;
        }
        return false;
    }

    private boolean write(Seed grain) {
        if (storeFails()) {
            return false;
        }
        grain.stored = grain.state;
        grain.times++;
        return true;
    }

    private void turn() {
        Object first = line.remove(0);
        turns++;
        if (first instanceof Seed) {
            come((Seed) first);
        } else {
            go((Task) first);
        }
    }

    private void come(Seed grain) {
        boolean kept = sortOf(grain).kept;
        if (kept && storeFails()) {
            grain.at = At.ABSENT;
            for (Task t : waitingAt(grain)) {
                over(t, 101, 0);
            }
            return;
        }
        grain.at = At.HERE;
        grain.state = kept ? grain.stored : 0;
        grain.timer = 0;
        grain.leaving = false;
        grain.idle = 0;
        came++;
        look(grain);
    }

    private void leave(Seed grain) {
        if (sortOf(grain).kept) {
            write(grain);
        }
        grain.at = At.ABSENT;
        grain.timer = 0;
        grain.leaving = false;
    }

    private void go(Task t) {
        List<Step> steps = wayOf(t).steps;
        Seed grain = t.grain;
        while (t.next < steps.size()) {
            Step s = steps.get(t.next++);
            if (s.op == 0) {
                grain.state += s.a;
            } else if (s.op == 1) {
                grain.state += t.arg;
            } else if (s.op == 2) {
                grain.state += t.r;
            } else if (s.op == 3 && crowded()) {
                if (!fail(t, 102)) {
                    return;
                }
            } else if (s.op == 3) {
                t.awaits = make(s.a, s.b, grain.state, t);
                t.is = Is.AWAITS;
                t.ticks = 0;
                return;
            } else if (s.op == 4 && crowded()) {
                over(t, 102, 0);
                return;
            } else if (s.op == 4) {
                make(s.a, s.b, grain.state, null);
            } else if (s.op == 5) {
                if (!write(grain)) {
                    over(t, 101, 0);
                    return;
                }
            } else if (s.op == 6) {
                line.add(t);
                return;
            } else if (s.op == 7) {
                over(t, s.a, 0);
                return;
            } else {
                small(t, s);
            }
        }
        over(t, 0, grain.state);
    }

    private void small(Task t, Step s) {
        Seed grain = t.grain;
        if (s.op == 8) {
            grain.timer = s.a;
        } else if (s.op == 9) {
            grain.each = s.a;
            grain.left = s.a;
        } else if (s.op == 10) {
            grain.leaving = true;
        } else if (s.op == 12) {
            if (t.r < 0) {
                t.next += s.a;
            }
        } else if (s.op == 13) {
            t.r = grain.state;
        } else if (s.op == 14) {
            grain.state = s.a;
        }
    }

    /** What fails at a call: true if it is caught, else the task is over by it. */
    private boolean fail(Task t, int code) {
        List<Step> steps = wayOf(t).steps;
        if (t.next < steps.size() && steps.get(t.next).op == 11) {
            t.r = -code;
            t.next++;
            return true;
        }
        over(t, code, 0);
        return false;
    }

    private void over(Task t, int code, int result) {
        t.is = Is.OVER;
        standing.remove(t);
        Task caller = t.caller;
        if (caller != null && caller.is == Is.AWAITS && caller.awaits == t) {
            caller.awaits = null;
            caller.is = Is.READY;
            boolean goesOn = true;
            if (code == 0) {
                caller.r = result;
            } else {
                goesOn = fail(caller, code);
            }
            if (goesOn) {
                line.add(caller);
            }
        }
        if (t.outside != null && t.outside.pending) {
            tell(t.outside, code, result);
        }
        Seed grain = t.grain;
        if (grain.at == At.HERE) {
            look(grain);
        }
        if (grain.at == At.HERE && grain.leaving && begunAt(grain).isEmpty() && waitingAt(grain).isEmpty()) {
            leave(grain);
        }
    }

    private void tell(Asked call, int code, int result) {
        call.pending = false;
        call.failed = code != 0;
        call.value = code != 0 ? code : result;
    }

    private void oneTick() {
        clock++;
        for (Seed grain : seeds) {
            if (grain.at == At.HERE && grain.timer == 1) {
                grain.timer = 0;
                if (!crowded()) {
                    make(grain.g, 3, 0, null);
                }
            } else if (grain.at == At.HERE && grain.timer > 1) {
                grain.timer--;
            }
        }
        for (Seed grain : seeds) {
            if (grain.each > 0 && grain.left == 1) {
                grain.left = grain.each;
                if (!crowded()) {
                    make(grain.g, 2, 0, null);
                }
            } else if (grain.each > 0) {
                grain.left--;
            }
        }
        for (Task t : new ArrayList<>(standing)) {
            if (t.is == Is.AWAITS) {
                late(t);
            }
        }
        for (Asked call : calls) {
            if (call.pending) {
                call.ticks++;
                if (limit > 0 && call.ticks >= limit) {
                    tell(call, 103, 0);
                }
            }
        }
        for (Seed grain : seeds) {
            if (grain.at == At.HERE && begunAt(grain).isEmpty() && waitingAt(grain).isEmpty()) {
                grain.idle++;
                if (age > 0 && grain.idle >= age) {
                    leave(grain);
                }
            }
        }
    }

    private void late(Task t) {
        t.ticks++;
        if (limit > 0 && t.ticks >= limit) {
            t.awaits = null;
            t.is = Is.READY;
            if (fail(t, 103)) {
                line.add(t);
            }
        }
    }

    private static boolean in(int n, int least, int most) {
        return least <= n && n <= most;
    }

    @Override
    public boolean kind(int k, boolean reentrant, boolean kept) {
        if (!in(k, 0, 3) || !standing.isEmpty()) {
            return false;
        }
        sorts[k].reentrant = reentrant;
        sorts[k].kept = kept;
        return true;
    }

    @Override
    public int method(int k, int m, boolean open, boolean reading) {
        if (!in(k, 0, 3) || !in(m, 0, 3)) {
            return -1;
        }
        if (!standing.isEmpty()) {
            return -3;
        }
        int had = sorts[k].ways[m].steps.size();
        sorts[k].ways[m] = new Way();
        sorts[k].ways[m].open = open;
        sorts[k].ways[m].reading = reading;
        return had;
    }

    @Override
    public int step(int k, int m, int op, int a, int b) {
        boolean good = in(k, 0, 3) && in(m, 0, 3) && in(op, 0, 14);
        if (op == 3 || op == 4) {
            good = good && in(a, 0, 31) && in(b, 0, 3);
        } else if (op == 7) {
            good = good && in(a, 1, 99);
        } else if (op == 8 || op == 9) {
            good = good && in(a, 0, 50);
        } else if (op == 12) {
            good = good && in(a, 1, 7);
        }
        if (!good) {
            return -1;
        }
        if (!standing.isEmpty()) {
            return -3;
        }
        List<Step> steps = sorts[k].ways[m].steps;
        if (steps.size() == 8) {
            return -2;
        }
        Step s = new Step();
        s.op = op;
        s.a = a;
        s.b = b;
        steps.add(s);
        return steps.size();
    }

    @Override
    public boolean limits(int newLimit, int newAge) {
        if (!in(newLimit, 0, 100) || !in(newAge, 0, 100)) {
            return false;
        }
        limit = newLimit;
        age = newAge;
        return true;
    }

    @Override
    public int fails(int n) {
        if (!in(n, 0, 20)) {
            return -1;
        }
        int before = fails;
        fails = n;
        return before;
    }

    @Override
    public int call(int g, int m, int arg) {
        if (!in(g, 0, 31) || !in(m, 0, 3)) {
            return -1;
        }
        if (calls.size() == 12 || crowded()) {
            return -2;
        }
        Asked call = new Asked();
        call.task = make(g, m, arg, null);
        call.task.outside = call;
        calls.add(call);
        return calls.size() - 1;
    }

    @Override
    public int forget() {
        for (Asked call : calls) {
            if (call.pending) {
                return -3;
            }
        }
        int size = calls.size();
        calls.clear();
        return size;
    }

    @Override
    public int run(int n) {
        if (!in(n, 1, 40)) {
            return -1;
        }
        int done = 0;
        while (done < n && !line.isEmpty()) {
            turn();
            done++;
        }
        return done;
    }

    @Override
    public int tick(int n) {
        if (!in(n, 1, 20)) {
            return -1;
        }
        for (int i = 0; i < n; i++) {
            oneTick();
        }
        return clock;
    }

    @Override
    public int restart() {
        int were = standing.size();
        for (Task t : standing) {
            t.is = Is.OVER;
        }
        standing.clear();
        line.clear();
        for (Seed grain : seeds) {
            grain.at = At.ABSENT;
        }
        for (Asked call : calls) {
            if (call.pending) {
                tell(call, 104, 0);
            }
        }
        return were;
    }

    @Override
    public long ask(int c, int what) {
        if (!in(c, 0, calls.size() - 1)) {
            return 1L << 40;
        }
        Asked call = calls.get(c);
        switch (what) {
            case 0: return call.pending ? 0 : call.failed ? 2 : 1;
            case 1: return call.pending ? 0 : call.value;
            case 2: return call.task.number;
            default: return 1L << 40;
        }
    }

    @Override
    public int grain(int g, int what) {
        if (!in(g, 0, 31)) {
            return -1;
        }
        Seed grain = seeds[g];
        boolean here = grain.at == At.HERE;
        switch (what) {
            case 0: return here && grain.leaving ? 3 : grain.at.ordinal();
            case 1: return here ? grain.state : 0;
            case 2: return begunAt(grain).size();
            case 3: return waitingAt(grain).size();
            case 4: return here ? grain.timer : 0;
            case 5: return here ? grain.idle : 0;
            case 6: return grain.stored;
            case 7: return grain.times;
            case 8: return grain.each == 0 ? 0 : grain.left;
            case 9: return grain.each;
            default: return -1;
        }
    }

    @Override
    public int request(int k, int what) {
        if (!in(k, 0, standing.size() - 1)) {
            return -1;
        }
        Task t = standing.get(k);
        switch (what) {
            case 0: return t.number;
            case 1: return t.is.ordinal();
            case 2: return t.grain.g;
            case 3: return t.m;
            case 4: return t.arg;
            case 5: return t.r;
            case 6: return t.next;
            case 7: return t.is == Is.AWAITS ? t.awaits.number : -1;
            case 8: return t.is == Is.AWAITS ? t.ticks : 0;
            case 9: return t.chain().size();
            default: return -1;
        }
    }

    @Override
    public int line(int k) {
        if (!in(k, 0, line.size() - 1)) {
            return -1;
        }
        Object at = line.get(k);
        return at instanceof Seed ? -2 - ((Seed) at).g : ((Task) at).number;
    }

    @Override
    public int count(int what) {
        int here = 0;
        for (Seed grain : seeds) {
            here += grain.at == At.HERE ? 1 : 0;
        }
        int[] all = {clock, made, standing.size(), turns, here, came, line.size(), calls.size(), fails};
        return in(what, 0, 8) ? all[what] : -1;
    }
}
