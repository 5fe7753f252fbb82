/** The numbers of the steps. */
final class Op {
    static final int ADD = 0, TAKE = 1, KEEP = 2, CALL = 3, TELL = 4, SAVE = 5, YIELD = 6, FAIL = 7;
    static final int TIMER = 8, REMIND = 9, LEAVE = 10, CATCH = 11, SKIP = 12, LET = 13, SET = 14;

    private Op() {
    }

    /** Adds steps, each told by three numbers (op, a, b), to a method. */
    static void steps(GrainHost x, int k, int m, int... numbers) {
        for (int i = 0; i < numbers.length; i += 3) {
            x.step(k, m, numbers[i], numbers[i + 1], numbers[i + 2]);
        }
    }
}
