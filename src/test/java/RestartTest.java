/** Promise 11. */
public final class RestartTest {
    public static void main(String[] args) {
        Check check = new Check();
        everythingStops(check);
        whatStays(check);
        goesOnAfterwards(check);
        theFirstIsPendingToo(check);
        check.finish();
    }

    private static GrainHost busy() {
        GrainHost x = new GrainHost();
        x.kind(0, true, true);
        Op.steps(x, 0, 0, Op.SET, 7, 0, Op.SAVE, 0, 0, Op.TIMER, 9, 0, Op.REMIND, 5, 0);
        Op.steps(x, 0, 1, Op.LEAVE, 0, 0, Op.SET, 70, 0, Op.CALL, 8, 0);
        x.limits(50, 40);
        x.call(0, 0, 0);
        x.run(2);
        x.tick(2);
        x.call(0, 1, 0);
        x.run(1);
        x.call(1, 0, 0);
        x.call(0, 0, 0);
        x.fails(3);
        return x;
    }

    private static void everythingStops(Check check) {
        GrainHost x = busy();
        check.due("four are not over", x.count(2), 4);
        check.due("restart()", x.restart(), 4);
        check.due("none then", x.count(2), 0);
        check.due("no request", x.request(0, 0), -1);
        check.due("the line is empty", x.count(6), 0);
        check.due("no first one", x.line(0), -1);
        check.due("none is here", x.count(4), 0);
        int[] grains = {0, 1, 8};
        for (int g : grains) {
            for (int what = 0; what < 6; what++) {
                check.due("grain(" + g + ", " + what + ")", x.grain(g, what), 0);
            }
        }
        check.due("the first has its result still", x.ask(0, 1), 7);
        for (int c = 1; c < 4; c++) {
            check.due("pending ones failed", x.ask(c, 0), 2);
            check.due("with", x.ask(c, 1), 104);
        }
        check.due("restart() again", x.restart(), 0);
        check.due("they are there till they are forgotten", x.forget(), 4);
    }

    private static void whatStays(Check check) {
        GrainHost x = busy();
        int turns = x.count(3);
        int made = x.count(1);
        int came = x.count(5);
        x.restart();
        check.due("grains did not go", x.grain(0, 7), 1);
        check.due("the store", x.grain(0, 6), 7);
        check.due("how often it fails", x.count(8), 3);
        check.due("the reminder", x.grain(0, 9), 5);
        check.due("its ticks", x.grain(0, 8), 3);
        check.due("the clock", x.count(0), 2);
        check.due("turns", x.count(3), turns);
        check.due("requests made", x.count(1), made);
        check.due("how often one came", x.count(5), came);
        check.due("calls", x.count(7), 4);
        x.fails(0);
        x.call(0, 3, 0);
        x.run(2);
        check.due("kept", x.grain(0, 1), 7);
        check.due("numbers go on", x.ask(4, 2), made);
        check.due("steps", x.method(0, 0, false, false), 4);
    }

    private static void theFirstIsPendingToo(Check check) {
        GrainHost x = new GrainHost();
        x.call(0, 0, 0);
        check.due("restart()", x.restart(), 1);
        check.due("failed", x.ask(0, 0), 2);
        check.due("code", x.ask(0, 1), 104);
        check.due("the grain does not come", x.run(40), 0);
    }

    private static void goesOnAfterwards(Check check) {
        GrainHost x = busy();
        x.restart();
        x.fails(0);
        x.tick(3);
        check.due("the reminder comes", x.line(0), -2);
        x.run(2);
        check.due("and is done", x.count(2), 0);
        x.tick(5);
        x.run(40);
        x.tick(5);
        check.due("and comes again", x.request(0, 3), 2);
        GrainHost y = busy();
        y.restart();
        y.fails(0);
        y.call(24, 0, 0);
        y.run(2);
        y.tick(20);
        y.tick(19);
        check.due("the age stays", y.grain(24, 5), 39);
        y.tick(1);
        check.due("the age is reached", y.grain(24, 0), 0);
        y.call(25, 0, 0);
        y.tick(20);
        y.tick(20);
        y.tick(9);
        check.due("the limit stays", y.ask(5, 0), 0);
        y.tick(1);
        check.due("the limit is reached", y.ask(5, 1), 103);
    }
}
