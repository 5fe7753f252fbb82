/** Promise 2. */
public final class KindTest {
    public static void main(String[] args) {
        Check check = new Check();
        answers(check);
        reentrantLetsIn(check);
        keptReadsAndWrites(check);
        check.finish();
    }

    private static void answers(Check check) {
        GrainHost x = new GrainHost();
        for (int k = 0; k < 4; k++) {
            check.due("kind(" + k + ")", x.kind(k, true, true), true);
        }
        check.due("kind(-1)", x.kind(-1, true, true), false);
        check.due("kind(4)", x.kind(4, true, true), false);
        check.due("kind(least)", x.kind(Integer.MIN_VALUE, true, true), false);
        check.due("kind(most)", x.kind(Integer.MAX_VALUE, true, true), false);
        x.call(0, 0, 0);
        check.due("kind while a request waits", x.kind(3, false, false), false);
        x.run(1);
        check.due("kind while a request is ready", x.kind(3, false, false), false);
        x.run(1);
        check.due("kind when it is over", x.kind(3, false, false), true);
    }

    private static void reentrantLetsIn(Check check) {
        GrainHost x = new GrainHost();
        x.kind(1, true, false);
        x.step(1, 0, Op.YIELD, 0, 0);
        x.call(8, 0, 0);
        x.call(8, 0, 0);
        x.run(1);
        check.due("both begun", x.grain(8, 2), 2);
        x.call(8, 0, 0);
        check.due("and a third one at once", x.grain(8, 2), 3);
        x.run(40);
        x.kind(1, false, false);
        x.call(8, 0, 0);
        x.call(8, 0, 0);
        check.due("one begun where it is not reentrant now", x.grain(8, 2), 1);
        check.due("the other waits", x.grain(8, 3), 1);
    }

    private static void keptReadsAndWrites(Check check) {
        GrainHost x = new GrainHost();
        x.kind(1, false, true);
        Op.steps(x, 1, 0, Op.TAKE, 0, 0, Op.LEAVE, 0, 0);
        x.call(9, 0, 5);
        x.run(40);
        check.due("stored when it went", x.grain(9, 6), 5);
        x.call(9, 0, 6);
        x.run(40);
        check.due("read when it came", x.ask(1, 1), 11);
        x.kind(1, false, false);
        x.call(9, 0, 7);
        x.run(40);
        check.due("not read where it is not kept now", x.ask(2, 1), 7);
        check.due("not stored", x.grain(9, 6), 11);
        check.due("stored twice", x.grain(9, 7), 2);
    }
}
