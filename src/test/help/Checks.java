/**
 * What the tests by sentence share: a test of its own for each sentence of the document, the
 * answers held against it, and the runs of calls that several of them begin with.
 */
abstract class Checks {
    static final int BAD = TwoPhaseCuts.BAD;
    static final int DOWN = TwoPhaseCuts.DOWN;
    static final int BUSY = TwoPhaseCuts.BUSY;
    static final int NONE = TwoPhaseCuts.NONE;
    static final int LEAST = Integer.MIN_VALUE;
    static final int GREATEST = Integer.MAX_VALUE;

    private static final int ENOUGH_TICKS = 60;

    private static int sentences = 0;
    private static int failedSentences = 0;
    private static int wrongInThis = 0;
    private static String sentence = "";

    static void test(String words, Runnable itsTest) {
        sentence = words;
        wrongInThis = 0;
        sentences++;
        try {
            itsTest.run();
        } catch (RuntimeException thrown) {
            wrongInThis++;
            System.out.println("'" + sentence + "': a call threw " + thrown);
        }
        if (wrongInThis > 0) {
            failedSentences++;
        }
    }

    static void finish() {
        System.out.println(sentences + " sentences tested, " + failedSentences + " do not hold");
        if (failedSentences > 0) {
            System.exit(1);
        }
    }

    static void due(String call, long got, long want) {
        if (got != want) {
            wrongInThis++;
            System.out.println("'" + sentence + "': " + call + " answered " + got
                    + ", due is " + want);
        }
    }

    static void due(String call, boolean got, boolean want) {
        due(call, got ? 1 : 0, want ? 1 : 0);
    }

    /** The numbers next to those of the n processes, and the farthest. */
    static int[] noProcesses(int n) {
        return new int[] {-1, n, n + 1, LEAST, GREATEST};
    }

    /** One message from p to q, sent and received. */
    static void pass(TwoPhaseCuts x, int p, int q) {
        int sent = x.send(p, q);
        due("receive(" + p + ", " + q + ")", x.receive(p, q), sent);
    }

    static void sendMany(TwoPhaseCuts x, int p, int q, int count) {
        for (int i = 0; i < count; i++) {
            x.send(p, q);
        }
    }

    static void ticks(TwoPhaseCuts x, int... delivered) {
        for (int i = 0; i < delivered.length; i++) {
            due("tick " + (i + 1) + " of " + delivered.length, x.tick(), delivered[i]);
        }
    }

    static void settle(TwoPhaseCuts x) {
        for (int i = 0; i < ENOUGH_TICKS && x.notes() > 0; i++) {
            x.tick();
        }
        due("notes() after settling", x.notes(), 0);
    }

    static void rollBackWhole(TwoPhaseCuts x, int p) {
        x.crash(p);
        x.restart(p);
        settle(x);
    }

    /**
     * Of three processes 1 is the root of checkpoint 1 that goes on, and 0 joined it; 2 is in
     * none. A message waits on every channel.
     */
    static TwoPhaseCuts inCheckpoint() {
        TwoPhaseCuts x = new TwoPhaseCuts(3);
        x.work(0, 3);
        x.work(1, 4);
        x.work(2, 5);
        pass(x, 0, 1);
        oneOnEveryChannel(x, 3);
        x.checkpoint(1);
        x.tick();
        due("instance(0)", x.instance(0), 1);
        due("instance(1)", x.instance(1), 1);
        due("instance(2)", x.instance(2), 0);
        return x;
    }

    /**
     * Of three processes 0 is the root of rollback 1 that goes on, thus down, and 1 joined it;
     * 2 is in none. A message waits on every channel.
     */
    static TwoPhaseCuts inRollback() {
        TwoPhaseCuts x = new TwoPhaseCuts(3);
        x.work(0, 3);
        x.work(1, 4);
        x.work(2, 5);
        pass(x, 0, 1);
        oneOnEveryChannel(x, 3);
        x.crash(0);
        x.restart(0);
        x.tick();
        due("instance(0)", x.instance(0), 1);
        due("instance(1)", x.instance(1), 1);
        due("instance(2)", x.instance(2), 0);
        return x;
    }

    static void oneOnEveryChannel(TwoPhaseCuts x, int n) {
        for (int p = 0; p < n; p++) {
            for (int q = 0; q < n; q++) {
                if (p != q) {
                    x.send(p, q);
                }
            }
        }
    }

    static void emptyEveryChannel(TwoPhaseCuts x, int n) {
        for (int p = 0; p < n; p++) {
            for (int q = 0; q < n; q++) {
                for (int left = x.waiting(p, q); left > 0; left--) {
                    x.lose(p, q);
                }
            }
        }
    }

    /** All that the face shows of an object of n processes. */
    static String stateOf(TwoPhaseCuts x, int n) {
        StringBuilder state = new StringBuilder();
        for (int p = 0; p < n; p++) {
            state.append(x.value(p)).append(' ').append(x.kept(p)).append(' ');
            state.append(x.down(p)).append(' ').append(x.instance(p)).append(' ');
            state.append(x.times(p, 0)).append(' ').append(x.times(p, 1)).append(' ');
            for (int q = 0; q < n; q++) {
                state.append(x.waiting(p, q)).append(' ');
                for (int which = 0; which < 4; which++) {
                    state.append(x.label(p, q, which)).append(' ');
                }
            }
        }
        for (int i = 1; x.decision(i) != BAD; i++) {
            state.append(x.decision(i)).append(' ');
        }
        return state.append(x.notes()).toString();
    }
}
