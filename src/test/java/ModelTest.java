import java.util.ArrayList;
import java.util.List;
import java.util.Random;
import java.util.function.ToLongFunction;

/**
 * Runs of 512 calls, of the same chance each time, on GrainHost and on PlainHost: each answer, and
 * all that can be asked after it, is the same.
 */
public final class ModelTest {
    private static final int RUNS = 600, CALLS = 512;

    private final Random random;
    private final int grainsUsed;
    private final int stepsUsed;
    private final Face real = new RealHost(new GrainHost());
    private final Face plain = new PlainHost();
    private final List<String> told = new ArrayList<>();

    private ModelTest(long seed) {
        random = new Random(seed);
        grainsUsed = 1 + random.nextInt(random.nextBoolean() ? 4 : 32);
        stepsUsed = 1 + random.nextInt(8);
    }

    public static void main(String[] args) {
        for (long seed = 0; seed < RUNS; seed++) {
            if (!new ModelTest(seed).isSame()) {
                System.out.println("in the run of seed " + seed);
                System.exit(1);
            }
        }
    }

    private boolean isSame() {
        for (int k = 0; k < 4; k++) {
            defineKind(k);
            for (int m = 0; m < 4; m++) {
                defineMethod(k, m);
            }
        }
        while (told.size() < CALLS) {
            anyCall();
            if (!told.get(told.size() - 1).isEmpty()) {
                return false;
            }
        }
        return true;
    }

    /** Makes a call of both hosts, and notes what is not the same. */
    private void both(String name, ToLongFunction<Face> call) {
        long want = call.applyAsLong(plain);
        long got = call.applyAsLong(real);
        int other = Snapshot.firstOther(Snapshot.of(plain), Snapshot.of(real));
        boolean same = got == want && other == -1;
        told.add(same ? "" : name);
        if (!same) {
            System.out.println("call " + told.size() + ", " + name + ": answered " + got + ", due is " + want
                + "; what can be asked differs at " + other);
        }
    }

    private boolean oneIn(int n) {
        return random.nextInt(n) == 0;
    }

    private int anyGrain() {
        return random.nextInt(grainsUsed) * 13 % 32;
    }

    private int anyInt() {
        return oneIn(10) ? random.nextInt() : random.nextInt(21) - 10;
    }

    private void defineKind(int k) {
        boolean reentrant = oneIn(6);
        boolean kept = oneIn(2);
        both("kind", x -> x.kind(k, reentrant, kept) ? 1 : 0);
    }

    private void defineMethod(int k, int m) {
        boolean open = oneIn(8);
        boolean reading = oneIn(3);
        both("method", x -> x.method(k, m, open, reading));
        int steps = random.nextInt(stepsUsed + 1);
        for (int i = 0; i < steps; i++) {
            defineStep(k, m);
        }
    }

    private void defineStep(int k, int m) {
        int op = oneIn(3) ? Op.CALL : oneIn(8) ? Op.TELL : random.nextInt(15);
        int a = anyInt();
        if (op == Op.CALL || op == Op.TELL) {
            a = anyGrain();
        } else if (op == Op.FAIL) {
            a = 1 + random.nextInt(99);
        } else if (op == Op.TIMER || op == Op.REMIND) {
            a = random.nextInt(oneIn(3) ? 51 : 5);
        } else if (op == Op.SKIP) {
            a = 1 + random.nextInt(oneIn(4) ? 7 : 2);
        }
        int number = a;
        int b = random.nextInt(4);
        both("step", x -> x.step(k, m, op, number, b));
        if (op == Op.CALL && oneIn(2)) {
            both("step", x -> x.step(k, m, Op.CATCH, 0, 0));
        }
    }

    private void anyCall() {
        int pick = random.nextInt(100);
        if (pick < 30) {
            int g = anyGrain();
            int m = random.nextInt(4);
            int arg = anyInt();
            both("call", x -> x.call(g, m, arg));
        } else if (pick < 68) {
            int n = 1 + random.nextInt(oneIn(5) ? 40 : 6);
            both("run", x -> x.run(n));
        } else if (pick < 80) {
            int n = 1 + random.nextInt(oneIn(6) ? 20 : 3);
            both("tick", x -> x.tick(n));
        } else if (pick < 88) {
            both("forget", x -> x.forget());
        } else if (pick < 92) {
            int n = random.nextInt(oneIn(4) ? 21 : 4);
            both("fails", x -> x.fails(n));
        } else if (pick < 94) {
            int limit = random.nextInt(oneIn(3) ? 101 : 6);
            int age = random.nextInt(oneIn(3) ? 101 : 6);
            both("limits", x -> x.limits(limit, age) ? 1 : 0);
        } else if (pick < 96) {
            rareCall();
        } else {
            wrongCall();
        }
    }

    private void rareCall() {
        if (oneIn(2)) {
            both("restart", x -> x.restart());
        }
        if (oneIn(2)) {
            defineKind(random.nextInt(4));
        } else {
            defineMethod(random.nextInt(4), random.nextInt(4));
        }
    }

    private int anyNumber() {
        return oneIn(3) ? random.nextInt() : random.nextInt(60) - 10;
    }

    private void wrongCall() {
        int a = anyNumber();
        int b = anyNumber();
        int c = anyNumber();
        int d = anyNumber();
        int e = anyNumber();
        switch (random.nextInt(14)) {
            case 0: both("kind", x -> x.kind(a, false, true) ? 1 : 0); break;
            case 1: both("method", x -> x.method(a, b, true, false)); break;
            case 2: both("step", x -> x.step(a & 3, b & 3, c, d, e)); break;
            case 3: both("limits", x -> x.limits(a, b) ? 1 : 0); break;
            case 4: both("fails", x -> x.fails(a)); break;
            case 5: both("call", x -> x.call(a, b, c)); break;
            case 6: both("run", x -> x.run(a)); break;
            case 7: both("tick", x -> x.tick(a)); break;
            case 8: both("ask", x -> x.ask(a, b)); break;
            case 9: both("grain", x -> x.grain(a, b)); break;
            case 10: both("request", x -> x.request(a, b)); break;
            case 11: both("line", x -> x.line(a)); break;
            case 12: both("count", x -> x.count(a)); break;
            default: both("step", x -> x.step(a, b, c, d, e)); break;
        }
    }
}
