/** The calls of the document, so that a test can make the same ones of two hosts. */
interface Face {
    boolean kind(int k, boolean reentrant, boolean kept);

    int method(int k, int m, boolean open, boolean reading);

    int step(int k, int m, int op, int a, int b);

    boolean limits(int limit, int age);

    int fails(int n);

    int call(int g, int m, int arg);

    int forget();

    int run(int n);

    int tick(int n);

    int restart();

    long ask(int c, int what);

    int grain(int g, int what);

    int request(int k, int what);

    int line(int k);

    int count(int what);
}
