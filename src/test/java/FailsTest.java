/** Promise 6. */
public final class FailsTest {
    public static void main(String[] args) {
        Check check = new Check();
        answers(check);
        eachReadingAndWritingCounts(check);
        keptAlone(check);
        check.finish();
    }

    private static void answers(Check check) {
        GrainHost x = new GrainHost();
        check.due("fails(20)", x.fails(20), 0);
        check.due("fails(-1)", x.fails(-1), -1);
        check.due("fails(21)", x.fails(21), -1);
        check.due("fails(least)", x.fails(Integer.MIN_VALUE), -1);
        check.due("fails(3)", x.fails(3), 20);
        check.due("count(8)", x.count(8), 3);
        check.due("fails(0)", x.fails(0), 3);
        check.due("count(8) then", x.count(8), 0);
    }

    private static void eachReadingAndWritingCounts(Check check) {
        GrainHost x = new GrainHost();
        x.kind(0, false, true);
        Op.steps(x, 0, 0, Op.ADD, 4, 0, Op.SAVE, 0, 0);
        Op.steps(x, 0, 1, Op.ADD, 7, 0, Op.LEAVE, 0, 0);
        x.fails(2);
        x.call(0, 0, 0);
        x.run(40);
        check.due("the reading failed", x.ask(0, 1), 101);
        check.due("absent", x.grain(0, 0), 0);
        check.due("one left", x.count(8), 1);
        x.fails(0);
        x.call(0, 0, 0);
        x.run(1);
        x.fails(1);
        x.run(1);
        check.due("the writing failed", x.ask(1, 1), 101);
        check.due("the state stays", x.grain(0, 1), 4);
        check.due("nothing stored", x.grain(0, 6), 0);
        check.due("not counted as stored", x.grain(0, 7), 0);
        x.call(0, 0, 0);
        x.run(1);
        check.due("it works again", x.grain(0, 6), 8);
        check.due("stored once", x.grain(0, 7), 1);
        x.fails(1);
        x.call(0, 1, 0);
        x.run(1);
        check.due("gone", x.grain(0, 0), 0);
        check.due("its request has a result", x.ask(3, 1), 15);
        check.due("the state is lost", x.grain(0, 6), 8);
        check.due("none left", x.fails(0), 0);
    }

    private static void keptAlone(Check check) {
        GrainHost x = new GrainHost();
        Op.steps(x, 0, 0, Op.ADD, 4, 0, Op.LEAVE, 0, 0);
        Op.steps(x, 0, 1, Op.ADD, 4, 0, Op.SAVE, 0, 0);
        x.fails(1);
        x.call(0, 0, 0);
        x.run(40);
        check.due("coming and going of one not kept use no store", x.count(8), 1);
        x.call(0, 1, 0);
        x.run(40);
        check.due("its saving does", x.ask(1, 1), 101);
        x.call(0, 1, 0);
        x.run(40);
        check.due("and is stored", x.grain(0, 6), 8);
    }
}
