/** The host that is tested. */
final class RealHost implements Face {
    private final GrainHost x;

    RealHost(GrainHost x) {
        this.x = x;
    }

    @Override
    public boolean kind(int k, boolean reentrant, boolean kept) {
        return x.kind(k, reentrant, kept);
    }

    @Override
    public int method(int k, int m, boolean open, boolean reading) {
        return x.method(k, m, open, reading);
    }

    @Override
    public int step(int k, int m, int op, int a, int b) {
        return x.step(k, m, op, a, b);
    }

    @Override
    public boolean limits(int limit, int age) {
        return x.limits(limit, age);
    }

    @Override
    public int fails(int n) {
        return x.fails(n);
    }

    @Override
    public int call(int g, int m, int arg) {
        return x.call(g, m, arg);
    }

    @Override
    public int forget() {
        return x.forget();
    }

    @Override
    public int run(int n) {
        return x.run(n);
    }

    @Override
    public int tick(int n) {
        return x.tick(n);
    }

    @Override
    public int restart() {
        return x.restart();
    }

    @Override
    public long ask(int c, int what) {
        return x.ask(c, what);
    }

    @Override
    public int grain(int g, int what) {
        return x.grain(g, what);
    }

    @Override
    public int request(int k, int what) {
        return x.request(k, what);
    }

    @Override
    public int line(int k) {
        return x.line(k);
    }

    @Override
    public int count(int what) {
        return x.count(what);
    }
}
