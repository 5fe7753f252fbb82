/** The edges of the store: what counts as a reading or writing, the last that fails and the first that works. */
public final class StoreTest {
    private static final int BROKEN = 101, FAILS_STILL = 8;

    private final Check check = new Check();

    public static void main(String[] args) {
        StoreTest test = new StoreTest();
        test.readingsThatFail();
        test.savesThatFail();
        test.goingsThatFail();
        test.idleGoingsThatFail();
        test.eachCountsAsOne();
        test.saidAnew();
        test.whatIsNoReadingOrWriting();
        test.storedIsWhatWasWritten();
        test.eachGrainHasItsOwn();
        test.brokenIsNotCaughtAtASave();
        test.brokenIsCaughtAtACall();
        test.itComesAgainAfterItBroke();
        test.check.finish();
    }

    private static GrainHost kept() {
        GrainHost x = new GrainHost();
        x.kind(0, false, true);
        Op.steps(x, 0, 0, Op.TAKE, 0, 0);
        Op.steps(x, 0, 1, Op.TAKE, 0, 0, Op.SAVE, 0, 0, Op.ADD, 1000, 0);
        Op.steps(x, 0, 2, Op.TAKE, 0, 0, Op.LEAVE, 0, 0);
        return x;
    }

    /** Calls a method of grain 0 with ARG 1, and has it done; how it ended, or its code if it failed. */
    private static long done(GrainHost x, int m) {
        int c = x.call(0, m, 1);
        x.run(40);
        long ended = x.ask(c, 0) == 2 ? x.ask(c, 1) : 0;
        x.forget();
        return ended;
    }

    /** "The STORE FAILS the next n (0..20) times": n readings fail, the next one works. */
    private void readingsThatFail() {
        for (int n = 0; n <= 20; n++) {
            GrainHost x = kept();
            x.fails(n);
            for (int i = 0; i < n; i++) {
                check.due("fails still", x.count(FAILS_STILL), n - i);
                check.due("reading " + i + " of " + n, done(x, 0), BROKEN);
                check.due("absent", x.grain(0, 0), 0);
            }
            check.due("fails no more", x.count(FAILS_STILL), 0);
            check.due("the next one works", done(x, 0), 0);
            check.due("here", x.grain(0, 0), 2);
            check.due("came once", x.count(5), 1);
            check.due("it would not have failed", x.fails(0), 0);
        }
    }

    /** "5 SAVE: the STATE is written to the STORE; if that FAILS this FAILS with BROKEN" */
    private void savesThatFail() {
        for (int n = 0; n <= 20; n++) {
            GrainHost x = kept();
            done(x, 0);
            x.fails(n);
            for (int i = 0; i < n; i++) {
                check.due("writing " + i + " of " + n, done(x, 1), BROKEN);
                check.due("the state stays grown", x.grain(0, 1), 2 + i);
                check.due("nothing is stored", x.grain(0, 6), 0);
                check.due("nor counted", x.grain(0, 7), 0);
            }
            check.due("the next one works", done(x, 1), 0);
            check.due("stored", x.grain(0, 6), 2 + n);
            check.due("once", x.grain(0, 7), 1);
            check.due("it went on", x.grain(0, 1), 1002 + n);
        }
    }

    /** "A grain GOES: .. (if that FAILS it is lost); it is ABSENT" */
    private void goingsThatFail() {
        GrainHost x = kept();
        check.due("it goes", done(x, 2), 0);
        check.due("stored", x.grain(0, 6), 1);
        x.call(0, 2, 1);
        x.run(1);
        x.fails(1);
        x.run(1);
        check.due("its request has a result", x.ask(0, 1), 2);
        check.due("absent", x.grain(0, 0), 0);
        check.due("lost", x.grain(0, 6), 1);
        check.due("not counted", x.grain(0, 7), 1);
        check.due("one failure", x.count(FAILS_STILL), 0);
        x.forget();
        done(x, 2);
        check.due("from what was stored", x.grain(0, 6), 2);
        check.due("twice", x.grain(0, 7), 2);
    }

    private void idleGoingsThatFail() {
        for (int n = 0; n <= 3; n++) {
            GrainHost x = kept();
            for (int g = 0; g < 3; g++) {
                x.call(g, 0, 10 + g);
            }
            x.run(40);
            x.limits(0, 1);
            x.fails(n);
            x.tick(1);
            check.due("all gone", x.count(4), 0);
            check.due("none fails still", x.count(FAILS_STILL), 0);
            for (int g = 0; g < 3; g++) {
                check.due("stored, by grains", x.grain(g, 6), g < n ? 0 : 10 + g);
                check.due("counted", x.grain(g, 7), g < n ? 0 : 1);
            }
        }
    }

    /** "each reading or writing of it counts as one": a save and a going, both in one turn. */
    private void eachCountsAsOne() {
        for (int n = 0; n <= 3; n++) {
            GrainHost x = kept();
            Op.steps(x, 0, 3, Op.LEAVE, 0, 0, Op.SAVE, 0, 0);
            x.call(0, 3, 0);
            x.run(1);
            x.fails(n);
            x.run(1);
            int[] left = {0, 0, 0, 1};
            check.due("left of " + n, x.count(FAILS_STILL), left[n]);
            int[] stored = {2, 1, 0, 0};
            check.due("stored with " + n, x.grain(0, 7), stored[n]);
            check.due("gone", x.grain(0, 0), 0);
            check.due("broken", x.ask(0, 0), n == 0 ? 1 : 2);
        }
    }

    /** "how often it would have FAILED still": instead of it, not beside it. */
    private void saidAnew() {
        GrainHost x = kept();
        check.due("fails(20)", x.fails(20), 0);
        check.due("fails(20) again", x.fails(20), 20);
        done(x, 0);
        check.due("one has failed", x.fails(1), 19);
        check.due("instead", x.count(FAILS_STILL), 1);
        check.due("fails(0)", x.fails(0), 1);
        check.due("it works", done(x, 0), 0);
        check.due("fails(20)", x.fails(20), 0);
        check.due("refused", x.fails(21), -1);
        check.due("refused", x.fails(-1), -1);
        check.due("as it was", x.fails(5), 20);
        x.restart();
        check.due("a restart leaves it", x.count(FAILS_STILL), 5);
    }

    /** Coming and going of a kind that is not kept, asking, ticks and a restart use no store. */
    private void whatIsNoReadingOrWriting() {
        GrainHost x = new GrainHost();
        Op.steps(x, 0, 0, Op.ADD, 1, 0, Op.LEAVE, 0, 0);
        x.fails(20);
        for (int i = 0; i < 3; i++) {
            check.due("it ends", done(x, 0), 0);
            check.due("it came and went", x.grain(0, 0), 0);
        }
        x.limits(1, 1);
        done(x, 1);
        x.tick(2);
        check.due("gone by its age", x.count(4), 0);
        x.restart();
        Snapshot.of(new RealHost(x));
        check.due("20 still", x.count(FAILS_STILL), 20);
        check.due("never stored", x.grain(0, 7), 0);
        GrainHost y = kept();
        done(y, 0);
        y.fails(20);
        done(y, 0);
        check.due("one that is here is not read again", y.count(FAILS_STILL), 20);
        y.restart();
        check.due("without going", y.count(FAILS_STILL), 20);
        check.due("nothing was stored", y.grain(0, 7), 0);
    }

    /** What is stored is the state of then, and a reading is not a storing. */
    private void storedIsWhatWasWritten() {
        GrainHost x = kept();
        done(x, 1);
        check.due("the state at the save", x.grain(0, 6), 1);
        check.due("not the one behind it", x.grain(0, 1), 1001);
        x.restart();
        done(x, 0);
        check.due("what was stored is read", x.grain(0, 1), 2);
        check.due("stored once", x.grain(0, 7), 1);
        GrainHost y = new GrainHost();
        Op.steps(y, 0, 0, Op.ADD, 7, 0, Op.SAVE, 0, 0, Op.LEAVE, 0, 0);
        done(y, 0);
        check.due("a save of one that is not kept", y.grain(0, 6), 7);
        done(y, 0);
        check.due("that is not read", y.grain(0, 6), 7);
        check.due("but written each time", y.grain(0, 7), 2);
    }

    private void eachGrainHasItsOwn() {
        GrainHost x = new GrainHost();
        for (int k = 0; k < 4; k++) {
            Op.steps(x, k, 0, Op.TAKE, 0, 0, Op.SAVE, 0, 0);
        }
        for (int g = 0; g < 32; g++) {
            x.call(g, 0, 100 + g);
            x.run(40);
            x.forget();
        }
        for (int g = 0; g < 32; g++) {
            check.due("its int", x.grain(g, 6), 100 + g);
            check.due("once", x.grain(g, 7), 1);
        }
    }

    /** "STEPS other than CALL are not caught" */
    private void brokenIsNotCaughtAtASave() {
        GrainHost x = kept();
        Op.steps(x, 0, 3, Op.SAVE, 0, 0, Op.CATCH, 0, 0, Op.ADD, 5, 0);
        done(x, 0);
        x.fails(1);
        check.due("not caught", done(x, 3), BROKEN);
        check.due("nothing behind it is done", x.grain(0, 1), 1);
    }

    /** The reading for the called one fails: that is what the request that was awaited failed with. */
    private void brokenIsCaughtAtACall() {
        GrainHost x = kept();
        Op.steps(x, 1, 0, Op.CALL, 0, 0, Op.CATCH, 0, 0, Op.KEEP, 0, 0);
        Op.steps(x, 1, 1, Op.CALL, 0, 0, Op.KEEP, 0, 0);
        x.fails(2);
        x.call(8, 0, 0);
        x.run(40);
        check.due("caught", x.ask(0, 1), -BROKEN);
        x.call(9, 1, 0);
        x.run(40);
        check.due("not caught", x.ask(1, 0), 2);
        check.due("with", x.ask(1, 1), BROKEN);
    }

    /** "if that FAILS it is ABSENT": what is made for it then makes it come again. */
    private void itComesAgainAfterItBroke() {
        GrainHost x = kept();
        x.fails(1);
        x.call(0, 0, 1);
        x.run(1);
        check.due("absent", x.grain(0, 0), 0);
        check.due("the line is empty", x.count(6), 0);
        x.call(0, 0, 1);
        check.due("coming", x.grain(0, 0), 1);
        check.due("in line", x.line(0), -2);
        x.run(2);
        check.due("a result", x.ask(1, 1), 1);
    }
}
