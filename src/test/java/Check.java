/** Prints and counts the answers that are not as due; a test ends with exit code 1 if there was one. */
final class Check {
    private int wrong;

    void due(String what, long got, long want) {
        if (got != want) {
            wrong++;
            System.out.println(what + " answered " + got + ", due is " + want);
        }
    }

    void due(String what, boolean got, boolean want) {
        due(what, got ? 1 : 0, want ? 1 : 0);
    }

    /** Runs the call and finds that it answers what is due and changes nothing that can be asked. */
    void refused(GrainHost x, String what, java.util.function.LongSupplier call, long want) {
        Face face = new RealHost(x);
        long[] before = Snapshot.of(face);
        due(what, call.getAsLong(), want);
        due(what + " changed, at place", Snapshot.firstOther(before, Snapshot.of(face)), -1);
    }

    void finish() {
        if (wrong > 0) {
            System.out.println(wrong + " answers are not as due");
            System.exit(1);
        }
    }
}
