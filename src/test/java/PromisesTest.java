/** For each promise of the document: ordinary inputs, the edges it names, and wrong inputs. */
public final class PromisesTest {
    private static final int BAD = TwoPhaseCuts.BAD;
    private static final int DOWN = TwoPhaseCuts.DOWN;
    private static final int BUSY = TwoPhaseCuts.BUSY;
    private static final int NONE = TwoPhaseCuts.NONE;
    private static final int[] WRONG_PROCESSES = {-1, 3, 4, 5, Integer.MIN_VALUE, Integer.MAX_VALUE};

    private static int wrong = 0;
    private static String part = "";

    public static void main(String[] args) {
        terms();
        newObject();
        work();
        send();
        receive();
        lose();
        checkpoint();
        checkpointAnswers();
        crash();
        restart();
        rollbackAnswers();
        rollBackOfChannels();
        tick();
        value();
        kept();
        label();
        waiting();
        down();
        instance();
        decision();
        notes();
        times();
        refusedCallsChangeNothing();
        longLife();
        System.out.println(wrong == 0 ? "all promises hold" : wrong + " answers are not as due");
        if (wrong != 0) {
            System.exit(1);
        }
    }

    private static void part(String name) {
        part = name;
    }

    private static void due(String call, long got, long want) {
        if (got != want) {
            wrong++;
            System.out.println(part + ": " + call + " answered " + got + ", due is " + want);
        }
    }

    private static void due(String call, boolean got, boolean want) {
        due(call, got ? 1 : 0, want ? 1 : 0);
    }

    /** One message from p to q, sent and received. */
    private static void pass(TwoPhaseCuts x, int p, int q) {
        int sent = x.send(p, q);
        due("receive(" + p + ", " + q + ")", x.receive(p, q), sent);
    }

    private static void settle(TwoPhaseCuts x) {
        for (int i = 0; i < 100 && x.notes() > 0; i++) {
            x.tick();
        }
        due("notes() after settling", x.notes(), 0);
    }

    /** Process 1 has a message of 0 that 0, down and restarting, did not keep; 2 has none. */
    private static TwoPhaseCuts withOneInRollback() {
        TwoPhaseCuts x = new TwoPhaseCuts(3);
        x.work(0, 3);
        x.work(1, 4);
        pass(x, 0, 1);
        x.send(0, 1);
        x.send(1, 0);
        x.send(1, 2);
        x.send(2, 1);
        x.send(2, 0);
        x.crash(0);
        x.restart(0);
        x.tick();
        due("instance(1)", x.instance(1), 1);
        due("instance(2)", x.instance(2), 0);
        return x;
    }

    /** Process 1, which has a message of 0, is the root of a checkpoint that goes on. */
    private static TwoPhaseCuts withOneInCheckpoint() {
        TwoPhaseCuts x = new TwoPhaseCuts(3);
        x.work(0, 3);
        pass(x, 0, 1);
        x.send(0, 1);
        x.send(1, 0);
        x.checkpoint(1);
        return x;
    }

    private static void terms() {
        part("the constants");
        due("BAD", BAD, -1);
        due("DOWN", DOWN, -2);
        due("BUSY", BUSY, -3);
        due("NONE", NONE, -4);
    }

    private static void newObject() {
        part("promise 1");
        int[] asked = {Integer.MIN_VALUE, -1, 0, 1, 2, 3, 4, 5, 6, 9, Integer.MAX_VALUE};
        int[] made = {2, 2, 2, 2, 2, 3, 4, 5, 5, 5, 5};
        for (int i = 0; i < asked.length; i++) {
            TwoPhaseCuts x = new TwoPhaseCuts(asked[i]);
            for (int p = 0; p < 7; p++) {
                due("instance(" + p + ") of " + asked[i], x.instance(p), p < made[i] ? 0 : BAD);
            }
        }
        TwoPhaseCuts x = new TwoPhaseCuts(5);
        due("notes()", x.notes(), 0);
        due("decision(1)", x.decision(1), BAD);
        for (int p = 0; p < 5; p++) {
            due("value", x.value(p), 0);
            due("kept", x.kept(p), 0);
            due("down", x.down(p), false);
            due("times 0", x.times(p, 0), 0);
            due("times 1", x.times(p, 1), 0);
            for (int q = 0; q < 5; q++) {
                due("waiting", x.waiting(p, q), p == q ? BAD : 0);
                for (int which = 0; which < 4; which++) {
                    due("label", x.label(p, q, which), p == q ? BAD : 0);
                }
            }
        }
    }

    private static void work() {
        part("promise 2");
        TwoPhaseCuts x = new TwoPhaseCuts(3);
        due("work(1, 7)", x.work(1, 7), 0);
        due("value(1)", x.value(1), 7);
        due("work(1, -2)", x.work(1, -2), 0);
        due("value(1)", x.value(1), 31 * 7 - 2);
        due("value(0)", x.value(0), 0);
        x.work(2, Integer.MAX_VALUE);
        x.work(2, Integer.MAX_VALUE);
        due("value(2)", x.value(2), 31 * Integer.MAX_VALUE + Integer.MAX_VALUE);
        for (int p : WRONG_PROCESSES) {
            due("work(" + p + ", 1)", x.work(p, 1), BAD);
        }
        x.crash(1);
        due("work(1, 1), down", x.work(1, 1), DOWN);
        due("value(1)", x.value(1), 31 * 7 - 2);

        TwoPhaseCuts r = withOneInRollback();
        due("work(1, 1), in a rollback", r.work(1, 1), BUSY);
        due("work(0, 1), down in a rollback", r.work(0, 1), DOWN);
        due("work(2, 1), in none", r.work(2, 1), 0);

        TwoPhaseCuts c = withOneInCheckpoint();
        due("work(1, 1), in a checkpoint", c.work(1, 1), 0);
    }

    private static void send() {
        part("promise 3");
        TwoPhaseCuts x = new TwoPhaseCuts(3);
        x.work(0, 9);
        for (int i = 1; i <= 6; i++) {
            due("send(0, 1)", x.send(0, 1), i);
        }
        due("send(0, 1), full", x.send(0, 1), NONE);
        due("label(0, 1, 0)", x.label(0, 1, 0), 6);
        due("waiting(0, 1)", x.waiting(0, 1), 6);
        due("send(0, 2)", x.send(0, 2), 1);
        due("send(1, 0)", x.send(1, 0), 1);
        due("value(0)", x.value(0), 9);
        x.lose(0, 1);
        due("send(0, 1), again room", x.send(0, 1), 7);
        due("send(1, 1)", x.send(1, 1), BAD);
        for (int p : WRONG_PROCESSES) {
            due("send(" + p + ", 0)", x.send(p, 0), BAD);
            due("send(0, " + p + ")", x.send(0, p), BAD);
        }
        x.crash(0);
        due("send(0, 1), down and full", x.send(0, 1), DOWN);
        due("send(0, 0), down", x.send(0, 0), BAD);
        due("send(2, 0), to one that is down", x.send(2, 0), 1);

        TwoPhaseCuts r = withOneInRollback();
        due("send(1, 2), in a rollback", r.send(1, 2), BUSY);
        due("send(0, 2), down in a rollback", r.send(0, 2), DOWN);
        due("send(2, 1), to one in a rollback", r.send(2, 1), 2);

        TwoPhaseCuts c = withOneInCheckpoint();
        due("send(1, 2), in a checkpoint", c.send(1, 2), BUSY);
        due("send(0, 1), to one in a checkpoint", c.send(0, 1), 3);
        busyBeforeFull();
    }

    private static void busyBeforeFull() {
        TwoPhaseCuts x = new TwoPhaseCuts(3);
        pass(x, 0, 1);
        for (int i = 0; i < 6; i++) {
            x.send(1, 2);
        }
        x.checkpoint(1);
        due("send(1, 2), in a checkpoint and full", x.send(1, 2), BUSY);
    }

    private static void receive() {
        part("promise 4");
        TwoPhaseCuts x = new TwoPhaseCuts(3);
        x.work(0, 5);
        x.work(1, 2);
        due("receive(0, 1), none", x.receive(0, 1), NONE);
        x.send(0, 1);
        x.work(0, 1);
        x.send(0, 1);
        x.send(0, 1);
        due("receive(1, 0), the other way", x.receive(1, 0), NONE);
        due("receive(0, 1)", x.receive(0, 1), 1);
        due("value(1)", x.value(1), 17 * 2 + 5 + 1);
        due("label(1, 0, 1)", x.label(1, 0, 1), 1);
        due("label(0, 1, 1)", x.label(0, 1, 1), 0);
        due("waiting(0, 1)", x.waiting(0, 1), 2);
        x.lose(0, 1);
        due("receive(0, 1), after a loss", x.receive(0, 1), 3);
        due("value(1)", x.value(1), 17 * 40 + 156 + 1);
        due("label(1, 0, 1)", x.label(1, 0, 1), 3);
        due("receive(1, 1)", x.receive(1, 1), BAD);
        for (int p : WRONG_PROCESSES) {
            due("receive(" + p + ", 0)", x.receive(p, 0), BAD);
            due("receive(0, " + p + ")", x.receive(0, p), BAD);
        }
        x.send(0, 1);
        x.send(2, 1);
        x.crash(1);
        due("receive(0, 1), 1 is down", x.receive(0, 1), DOWN);
        due("receive(1, 2), from one that is down, no message", x.receive(1, 2), BUSY);
        x.crash(2);
        due("receive(2, 1), both are down", x.receive(2, 1), DOWN);
        due("receive(1, 1), down", x.receive(1, 1), BAD);

        TwoPhaseCuts r = withOneInRollback();
        due("receive(2, 1), in a rollback", r.receive(2, 1), BUSY);
        due("receive(1, 2), from one in a rollback", r.receive(1, 2), BUSY);
        due("receive(2, 0), down in a rollback", r.receive(2, 0), DOWN);
        due("receive(0, 2), from one that is down in a rollback", r.receive(0, 2), BUSY);

        TwoPhaseCuts c = withOneInCheckpoint();
        due("receive(0, 1), in a checkpoint", c.receive(0, 1), 2);
        due("receive(1, 0), from one in a checkpoint", c.receive(1, 0), 1);
    }

    private static void lose() {
        part("promise 5");
        TwoPhaseCuts x = new TwoPhaseCuts(3);
        due("lose(0, 1), none", x.lose(0, 1), NONE);
        x.send(0, 1);
        x.send(0, 1);
        due("lose(1, 0), the other way", x.lose(1, 0), NONE);
        due("lose(0, 1)", x.lose(0, 1), 1);
        due("waiting(0, 1)", x.waiting(0, 1), 1);
        due("label(1, 0, 1)", x.label(1, 0, 1), 0);
        due("label(0, 1, 0)", x.label(0, 1, 0), 2);
        due("value(1)", x.value(1), 0);
        due("lose(0, 1)", x.lose(0, 1), 2);
        due("lose(0, 1), none", x.lose(0, 1), NONE);
        due("lose(1, 1)", x.lose(1, 1), BAD);
        for (int p : WRONG_PROCESSES) {
            due("lose(" + p + ", 0)", x.lose(p, 0), BAD);
            due("lose(0, " + p + ")", x.lose(0, p), BAD);
        }
        x.send(0, 1);
        x.crash(0);
        x.crash(1);
        due("lose(0, 1), both are down", x.lose(0, 1), 3);
        TwoPhaseCuts r = withOneInRollback();
        due("lose(1, 2), from one in a rollback", r.lose(1, 2), 1);
        due("lose(2, 1), to one in a rollback", r.lose(2, 1), 1);
        due("lose(0, 1), from the root of a rollback", r.lose(0, 1), 2);
    }

    private static void checkpoint() {
        part("promise 6");
        TwoPhaseCuts x = new TwoPhaseCuts(3);
        x.work(0, 8);
        due("checkpoint(0), no cohort", x.checkpoint(0), 1);
        due("decision(1)", x.decision(1), 1);
        due("instance(0)", x.instance(0), 0);
        due("kept(0)", x.kept(0), 8);
        due("notes()", x.notes(), 0);
        pass(x, 0, 1);
        due("checkpoint(1)", x.checkpoint(1), 2);
        due("instance(1)", x.instance(1), 2);
        due("notes()", x.notes(), 1);
        due("checkpoint(1), in a checkpoint", x.checkpoint(1), BUSY);
        x.work(1, 100);
        x.send(0, 1);
        x.receive(0, 1);
        int tentative = 17 * 0 + 8 + 1;
        x.tick();
        due("checkpoint(0), which joined", x.checkpoint(0), BUSY);
        x.tick();
        due("decision(2)", x.decision(2), 1);
        due("kept(1), of when it joined", x.kept(1), tentative);
        due("label(1, 0, 3), of when it joined", x.label(1, 0, 3), 1);
        due("label(1, 0, 1)", x.label(1, 0, 1), 2);
        due("label(0, 1, 2), before the decision comes", x.label(0, 1, 2), 0);
        x.tick();
        due("label(0, 1, 2), of when it joined", x.label(0, 1, 2), 2);
        for (int p : WRONG_PROCESSES) {
            due("checkpoint(" + p + ")", x.checkpoint(p), BAD);
        }
        x.crash(2);
        due("checkpoint(2), down", x.checkpoint(2), DOWN);
        x.restart(2);
        due("checkpoint(2), down in a rollback", x.checkpoint(2), DOWN);
        TwoPhaseCuts r = withOneInRollback();
        due("checkpoint(1), in a rollback", r.checkpoint(1), BUSY);
        cohortIsThatOfTheJoining();
    }

    /** What a process receives after it joined makes no one part of its cohort. */
    private static void cohortIsThatOfTheJoining() {
        TwoPhaseCuts x = new TwoPhaseCuts(3);
        pass(x, 0, 1);
        x.send(2, 1);
        x.checkpoint(1);
        x.receive(2, 1);
        due("tick()", x.tick(), 1);
        due("tick()", x.tick(), 1);
        due("decision(1)", x.decision(1), 1);
        due("notes(), the decision for 0 alone", x.notes(), 1);
        due("label(1, 2, 3)", x.label(1, 2, 3), 0);
        due("label(1, 2, 1)", x.label(1, 2, 1), 1);
        x.tick();
        due("checkpoint(1), again", x.checkpoint(1), 2);
        due("notes(), a request to 2 alone", x.notes(), 1);
        settle(x);
        due("times(2, 0)", x.times(2, 0), 1);
        due("times(0, 0)", x.times(0, 0), 1);
    }

    private static void checkpointAnswers() {
        part("promise 6, answers");
        downSaysNo();
        notConcernedSaysYes();
        busyElsewhereSaysNo();
        oneNoAbortsAll();
        involvedThereSaysYes();
    }

    private static void downSaysNo() {
        TwoPhaseCuts x = new TwoPhaseCuts(2);
        x.work(1, 4);
        pass(x, 0, 1);
        x.crash(0);
        x.checkpoint(1);
        due("tick()", x.tick(), 1);
        due("decision(1)", x.decision(1), 0);
        due("tick()", x.tick(), 1);
        due("decision(1), 0 is down", x.decision(1), 2);
        due("instance(1)", x.instance(1), 0);
        due("kept(1)", x.kept(1), 0);
        due("times(1, 0)", x.times(1, 0), 0);
        due("notes(), the abort", x.notes(), 1);
        due("send(1, 0), after the abort", x.send(1, 0), 1);
    }

    private static void notConcernedSaysYes() {
        TwoPhaseCuts x = new TwoPhaseCuts(2);
        pass(x, 0, 1);
        x.checkpoint(0);
        x.checkpoint(1);
        x.tick();
        due("instance(0), label 1 is not above 1", x.instance(0), 0);
        x.tick();
        due("decision(2)", x.decision(2), 1);
        due("tick(), a decision to one not involved", x.tick(), 1);
        due("times(0, 0)", x.times(0, 0), 1);
        pass(x, 0, 1);
        x.checkpoint(1);
        x.tick();
        due("instance(0), label 2 is above 1", x.instance(0), 3);
    }

    private static void busyElsewhereSaysNo() {
        TwoPhaseCuts x = new TwoPhaseCuts(3);
        pass(x, 0, 1);
        pass(x, 1, 2);
        x.checkpoint(1);
        x.checkpoint(2);
        due("tick()", x.tick(), 2);
        due("tick()", x.tick(), 2);
        due("decision(1)", x.decision(1), 1);
        due("decision(2), 1 was involved in 1", x.decision(2), 2);
        due("instance(2)", x.instance(2), 0);
        due("times(2, 0)", x.times(2, 0), 0);
        settle(x);
        due("times(0, 0)", x.times(0, 0), 1);
        due("times(1, 0)", x.times(1, 0), 1);
    }

    /** The no of 0, which is down, goes by way of 1 to the root 3, while 2 said yes. */
    private static void oneNoAbortsAll() {
        TwoPhaseCuts x = new TwoPhaseCuts(4);
        pass(x, 0, 1);
        pass(x, 1, 3);
        pass(x, 2, 3);
        x.crash(0);
        x.checkpoint(3);
        due("tick()", x.tick(), 2);
        due("instance(1)", x.instance(1), 1);
        due("instance(2)", x.instance(2), 1);
        due("notes()", x.notes(), 2);
        x.tick();
        due("decision(1), not all answers are there", x.decision(1), 0);
        due("instance(3)", x.instance(3), 1);
        x.tick();
        due("decision(1)", x.decision(1), 0);
        x.tick();
        due("decision(1)", x.decision(1), 2);
        due("notes()", x.notes(), 2);
        due("tick()", x.tick(), 2);
        due("instance(1)", x.instance(1), 0);
        due("instance(2)", x.instance(2), 0);
        due("notes(), the abort for 0", x.notes(), 1);
        settle(x);
        for (int p = 0; p < 4; p++) {
            due("times(p, 0)", x.times(p, 0), 0);
        }
        due("down(0)", x.down(0), true);
    }

    /** 0 and 1 each have a message of the other, so that they ask each other. */
    private static void involvedThereSaysYes() {
        TwoPhaseCuts x = new TwoPhaseCuts(2);
        pass(x, 0, 1);
        pass(x, 1, 0);
        x.checkpoint(0);
        x.tick();
        due("notes()", x.notes(), 1);
        x.tick();
        due("decision(1)", x.decision(1), 0);
        x.tick();
        x.tick();
        due("decision(1)", x.decision(1), 1);
        due("tick(), the decision for 1", x.tick(), 1);
        due("tick(), that of 1 for 0", x.tick(), 1);
        due("notes()", x.notes(), 0);
        due("times(0, 0)", x.times(0, 0), 1);
        due("times(1, 0)", x.times(1, 0), 1);
    }

    private static void crash() {
        part("promise 7");
        TwoPhaseCuts x = new TwoPhaseCuts(3);
        x.work(0, 6);
        x.send(0, 1);
        due("crash(0)", x.crash(0), 0);
        due("down(0)", x.down(0), true);
        due("down(1)", x.down(1), false);
        due("value(0), as it was", x.value(0), 6);
        due("label(0, 1, 0), as it was", x.label(0, 1, 0), 1);
        due("waiting(0, 1)", x.waiting(0, 1), 1);
        due("crash(0), down", x.crash(0), DOWN);
        x.restart(0);
        due("crash(0), down in a rollback", x.crash(0), DOWN);
        for (int p : WRONG_PROCESSES) {
            due("crash(" + p + ")", x.crash(p), BAD);
        }
        due("crash(1), in a rollback", withOneInRollback().crash(1), BUSY);
        TwoPhaseCuts c = withOneInCheckpoint();
        due("crash(1), in a checkpoint", c.crash(1), BUSY);
        c.tick();
        due("crash(0), which joined a checkpoint", c.crash(0), BUSY);
        settle(c);
        due("crash(1), in none any more", c.crash(1), 0);
    }

    private static void restart() {
        part("promise 8");
        TwoPhaseCuts x = new TwoPhaseCuts(3);
        x.work(0, 2);
        x.checkpoint(0);
        x.work(0, 5);
        due("restart(0), up", x.restart(0), DOWN);
        for (int p : WRONG_PROCESSES) {
            due("restart(" + p + ")", x.restart(p), BAD);
        }
        x.crash(0);
        due("restart(0)", x.restart(0), 2);
        due("restart(0), in a rollback", x.restart(0), BUSY);
        due("notes(), to every other", x.notes(), 2);
        due("down(0), still", x.down(0), true);
        due("value(0), still", x.value(0), 31 * 2 + 5);
        x.tick();
        due("decision(2)", x.decision(2), 0);
        x.tick();
        due("decision(2)", x.decision(2), 1);
        due("down(0)", x.down(0), false);
        due("value(0)", x.value(0), 2);
        due("times(0, 1)", x.times(0, 1), 1);
        due("instance(0)", x.instance(0), 0);
        due("tick()", x.tick(), 2);
        due("times(1, 1), not concerned", x.times(1, 1), 0);
        due("work(0, 0)", x.work(0, 0), 0);
        due("restart(1), up in a rollback", withOneInRollback().restart(1), DOWN);
    }

    private static void rollbackAnswers() {
        part("promise 8, answers");
        concernedByWhatWasNotKept();
        downSaysYes();
        busyElsewhereAbortsRollback();
        whatAProcessInACheckpointSays();
    }

    private static void concernedByWhatWasNotKept() {
        TwoPhaseCuts x = new TwoPhaseCuts(3);
        pass(x, 0, 1);
        pass(x, 0, 2);
        x.checkpoint(0);
        pass(x, 0, 2);
        int before = x.value(1);
        x.crash(0);
        x.restart(0);
        x.tick();
        due("instance(1), 1 is not above 1", x.instance(1), 0);
        due("instance(2), 2 is above 1", x.instance(2), 2);
        settle(x);
        due("decision(2)", x.decision(2), 1);
        due("value(1)", x.value(1), before);
        due("value(2)", x.value(2), 0);
        due("label(2, 0, 1)", x.label(2, 0, 1), 0);
        due("label(0, 2, 0)", x.label(0, 2, 0), 1);
        due("times(0, 1)", x.times(0, 1), 1);
        due("times(1, 1)", x.times(1, 1), 0);
        due("times(2, 1)", x.times(2, 1), 1);
    }

    private static void downSaysYes() {
        TwoPhaseCuts x = new TwoPhaseCuts(2);
        pass(x, 0, 1);
        int before = x.value(1);
        x.crash(0);
        x.crash(1);
        x.restart(0);
        x.tick();
        due("instance(1), down", x.instance(1), 0);
        x.tick();
        due("decision(1), 1 is down", x.decision(1), 1);
        x.tick();
        due("down(0)", x.down(0), false);
        due("down(1), it did not join", x.down(1), true);
        due("value(1)", x.value(1), before);
        due("times(1, 1)", x.times(1, 1), 0);
    }

    private static void busyElsewhereAbortsRollback() {
        TwoPhaseCuts x = new TwoPhaseCuts(2);
        x.work(0, 3);
        x.work(1, 4);
        x.crash(0);
        x.crash(1);
        x.restart(0);
        x.restart(1);
        due("tick()", x.tick(), 2);
        due("tick()", x.tick(), 2);
        due("decision(1)", x.decision(1), 2);
        due("decision(2)", x.decision(2), 2);
        due("down(0), as before", x.down(0), true);
        due("down(1), as before", x.down(1), true);
        due("value(0)", x.value(0), 3);
        due("times(0, 1)", x.times(0, 1), 0);
        due("instance(0)", x.instance(0), 0);
        due("tick(), the aborts", x.tick(), 2);
        due("restart(0), again", x.restart(0), 3);
        settle(x);
        due("down(0)", x.down(0), false);
        due("value(0)", x.value(0), 0);
    }

    /** 2 is involved in a checkpoint, so 0 can't roll back; 1, which joined, stays as it was. */
    private static void whatAProcessInACheckpointSays() {
        TwoPhaseCuts x = new TwoPhaseCuts(4);
        pass(x, 0, 1);
        pass(x, 3, 2);
        int before = x.value(1);
        x.crash(0);
        x.restart(0);
        x.checkpoint(2);
        x.tick();
        due("instance(1)", x.instance(1), 1);
        settle(x);
        due("decision(1)", x.decision(1), 2);
        due("decision(2)", x.decision(2), 1);
        due("instance(1)", x.instance(1), 0);
        due("value(1)", x.value(1), before);
        due("times(1, 1)", x.times(1, 1), 0);
        due("down(1)", x.down(1), false);
    }

    private static void rollBackOfChannels() {
        part("rolling back");
        TwoPhaseCuts x = new TwoPhaseCuts(3);
        x.send(0, 1);
        x.send(0, 1);
        x.checkpoint(0);
        x.send(0, 1);
        x.send(0, 1);
        x.send(0, 2);
        x.send(1, 0);
        x.crash(0);
        x.restart(0);
        due("waiting(0, 1), before the decision", x.waiting(0, 1), 4);
        settle(x);
        due("waiting(0, 1), labels 3 and 4 are taken", x.waiting(0, 1), 2);
        due("waiting(0, 2)", x.waiting(0, 2), 0);
        due("waiting(1, 0), a channel to it stays", x.waiting(1, 0), 1);
        due("label(0, 1, 0)", x.label(0, 1, 0), 2);
        due("send(0, 1)", x.send(0, 1), 3);
        due("receive(0, 1)", x.receive(0, 1), 1);
        due("receive(0, 1)", x.receive(0, 1), 2);
        due("receive(0, 1)", x.receive(0, 1), 3);
        due("receive(0, 1)", x.receive(0, 1), NONE);
        rollBackOfReceipts();
    }

    /** 1 keeps a receipt of 2 and loses a later one when it rolls back with 0. */
    private static void rollBackOfReceipts() {
        TwoPhaseCuts x = new TwoPhaseCuts(3);
        pass(x, 2, 1);
        x.checkpoint(1);
        settle(x);
        int keptValue = x.value(1);
        pass(x, 2, 1);
        pass(x, 0, 1);
        x.crash(0);
        x.restart(0);
        settle(x);
        due("value(1)", x.value(1), keptValue);
        due("label(1, 2, 1)", x.label(1, 2, 1), 1);
        due("label(1, 0, 1)", x.label(1, 0, 1), 0);
        due("times(2, 1), it received nothing", x.times(2, 1), 0);
        due("label(2, 1, 0)", x.label(2, 1, 0), 2);
    }

    private static void tick() {
        part("promise 9");
        TwoPhaseCuts x = new TwoPhaseCuts(5);
        due("tick()", x.tick(), 0);
        pass(x, 0, 1);
        pass(x, 1, 2);
        x.checkpoint(2);
        due("tick()", x.tick(), 1);
        due("instance(0), what a tick sends waits for the next", x.instance(0), 0);
        due("tick()", x.tick(), 1);
        due("instance(0)", x.instance(0), 1);
        orderOfDelivery(0, 1);
        orderOfDelivery(1, 0);
        x = new TwoPhaseCuts(5);
        x.crash(3);
        x.restart(3);
        due("tick()", x.tick(), 4);
        due("tick()", x.tick(), 4);
        due("tick()", x.tick(), 4);
        due("tick()", x.tick(), 0);
    }

    /** Both roots ask 2 in one tick: the one that asked first has it. */
    private static void orderOfDelivery(int first, int second) {
        TwoPhaseCuts x = new TwoPhaseCuts(3);
        pass(x, 2, 0);
        pass(x, 2, 1);
        x.checkpoint(first);
        x.checkpoint(second);
        due("tick()", x.tick(), 2);
        due("instance(2)", x.instance(2), 1);
        due("tick()", x.tick(), 2);
        due("decision(1)", x.decision(1), 1);
        due("decision(2)", x.decision(2), 2);
        due("instance(" + first + ")", x.instance(first), 0);
    }

    private static void value() {
        part("promise 10");
        TwoPhaseCuts x = new TwoPhaseCuts(3);
        x.work(0, 11);
        x.work(2, -13);
        due("value(0)", x.value(0), 11);
        due("value(1)", x.value(1), 0);
        due("value(2)", x.value(2), -13);
        for (int p : WRONG_PROCESSES) {
            due("value(" + p + ")", x.value(p), 0);
        }
    }

    private static void kept() {
        part("promise 11");
        TwoPhaseCuts x = new TwoPhaseCuts(3);
        x.work(0, 11);
        due("kept(0)", x.kept(0), 0);
        x.checkpoint(0);
        x.work(0, 1);
        due("kept(0)", x.kept(0), 11);
        due("kept(1)", x.kept(1), 0);
        pass(x, 0, 1);
        x.checkpoint(1);
        due("kept(1), while it is tentative", x.kept(1), 0);
        for (int p : WRONG_PROCESSES) {
            due("kept(" + p + ")", x.kept(p), 0);
        }
    }

    private static void label() {
        part("promise 12");
        TwoPhaseCuts x = new TwoPhaseCuts(3);
        pass(x, 0, 1);
        pass(x, 0, 1);
        pass(x, 1, 0);
        x.checkpoint(0);
        settle(x);
        pass(x, 0, 1);
        pass(x, 1, 0);
        pass(x, 1, 0);
        x.send(0, 1);
        due("label(0, 1, 0)", x.label(0, 1, 0), 4);
        due("label(0, 1, 1)", x.label(0, 1, 1), 3);
        due("label(0, 1, 2)", x.label(0, 1, 2), 2);
        due("label(0, 1, 3)", x.label(0, 1, 3), 1);
        due("label(0, 2, 0)", x.label(0, 2, 0), 0);
        due("label(0, 1, 4)", x.label(0, 1, 4), BAD);
        due("label(0, 1, -1)", x.label(0, 1, -1), BAD);
        for (int which = 0; which < 4; which++) {
            due("label(1, 1, " + which + ")", x.label(1, 1, which), BAD);
            for (int p : WRONG_PROCESSES) {
                due("label(" + p + ", 0, " + which + ")", x.label(p, 0, which), BAD);
                due("label(0, " + p + ", " + which + ")", x.label(0, p, which), BAD);
            }
        }
    }

    private static void waiting() {
        part("promise 13");
        TwoPhaseCuts x = new TwoPhaseCuts(3);
        x.send(0, 1);
        x.send(0, 1);
        x.send(2, 1);
        due("waiting(0, 1)", x.waiting(0, 1), 2);
        due("waiting(1, 0)", x.waiting(1, 0), 0);
        due("waiting(2, 1)", x.waiting(2, 1), 1);
        x.receive(0, 1);
        due("waiting(0, 1)", x.waiting(0, 1), 1);
        due("waiting(0, 0)", x.waiting(0, 0), BAD);
        for (int p : WRONG_PROCESSES) {
            due("waiting(" + p + ", 0)", x.waiting(p, 0), BAD);
            due("waiting(0, " + p + ")", x.waiting(0, p), BAD);
        }
    }

    private static void down() {
        part("promise 14");
        TwoPhaseCuts x = new TwoPhaseCuts(3);
        due("down(2)", x.down(2), false);
        x.crash(2);
        due("down(2)", x.down(2), true);
        due("down(1)", x.down(1), false);
        x.restart(2);
        due("down(2)", x.down(2), true);
        settle(x);
        due("down(2)", x.down(2), false);
        for (int p : WRONG_PROCESSES) {
            due("down(" + p + ")", x.down(p), false);
        }
    }

    private static void instance() {
        part("promise 15");
        TwoPhaseCuts x = new TwoPhaseCuts(3);
        x.checkpoint(0);
        due("instance(0), decided at once", x.instance(0), 0);
        x.crash(2);
        x.restart(2);
        due("instance(2)", x.instance(2), 2);
        due("instance(1)", x.instance(1), 0);
        settle(x);
        due("instance(2)", x.instance(2), 0);
        for (int p : WRONG_PROCESSES) {
            due("instance(" + p + ")", x.instance(p), BAD);
        }
    }

    private static void decision() {
        part("promise 16");
        TwoPhaseCuts x = new TwoPhaseCuts(2);
        due("decision(1)", x.decision(1), BAD);
        x.checkpoint(0);
        due("decision(1), commit", x.decision(1), 1);
        due("decision(2)", x.decision(2), BAD);
        x.checkpoint(0);
        pass(x, 0, 1);
        x.crash(0);
        x.checkpoint(1);
        due("decision(3), goes on", x.decision(3), 0);
        settle(x);
        due("decision(3), abort", x.decision(3), 2);
        due("decision(1), still", x.decision(1), 1);
        due("decision(4)", x.decision(4), BAD);
        due("decision(0)", x.decision(0), BAD);
        due("decision(-1)", x.decision(-1), BAD);
        due("decision(513)", x.decision(513), BAD);
        due("decision(least)", x.decision(Integer.MIN_VALUE), BAD);
        due("decision(greatest)", x.decision(Integer.MAX_VALUE), BAD);
    }

    private static void notes() {
        part("promise 17");
        TwoPhaseCuts x = new TwoPhaseCuts(5);
        x.crash(0);
        x.restart(0);
        due("notes()", x.notes(), 4);
        x.crash(1);
        x.restart(1);
        due("notes()", x.notes(), 8);
        due("tick()", x.tick(), 8);
        due("notes(), answers", x.notes(), 8);
        x.tick();
        due("notes(), decisions", x.notes(), 8);
        x.tick();
        due("notes()", x.notes(), 0);
    }

    private static void times() {
        part("promise 18");
        TwoPhaseCuts x = new TwoPhaseCuts(3);
        x.checkpoint(0);
        x.checkpoint(0);
        pass(x, 0, 1);
        x.checkpoint(1);
        due("times(1, 0), tentative", x.times(1, 0), 0);
        settle(x);
        due("times(0, 0)", x.times(0, 0), 3);
        due("times(1, 0)", x.times(1, 0), 1);
        due("times(2, 0)", x.times(2, 0), 0);
        due("times(0, 1)", x.times(0, 1), 0);
        x.crash(0);
        x.restart(0);
        settle(x);
        due("times(0, 1)", x.times(0, 1), 1);
        due("times(0, 0)", x.times(0, 0), 3);
        due("times(0, 2)", x.times(0, 2), BAD);
        due("times(0, -1)", x.times(0, -1), BAD);
        for (int p : WRONG_PROCESSES) {
            due("times(" + p + ", 0)", x.times(p, 0), BAD);
            due("times(" + p + ", 1)", x.times(p, 1), BAD);
        }
    }

    private static void refusedCallsChangeNothing() {
        part("a refused call changes nothing");
        TwoPhaseCuts x = withOneInRollback();
        for (int i = 0; i < 6; i++) {
            x.send(2, 0);
        }
        String before = stateOf(x);
        due("work(1, 1)", x.work(1, 1), BUSY);
        due("work(0, 1)", x.work(0, 1), DOWN);
        due("work(3, 1)", x.work(3, 1), BAD);
        due("send(2, 0)", x.send(2, 0), NONE);
        due("send(1, 0)", x.send(1, 0), BUSY);
        due("send(0, 1)", x.send(0, 1), DOWN);
        due("send(2, 2)", x.send(2, 2), BAD);
        due("receive(2, 1)", x.receive(2, 1), BUSY);
        due("receive(1, 2)", x.receive(1, 2), BUSY);
        due("receive(2, 0)", x.receive(2, 0), DOWN);
        due("receive(2, 3)", x.receive(2, 3), BAD);
        due("lose(0, 2)", x.lose(0, 2), NONE);
        due("lose(3, 0)", x.lose(3, 0), BAD);
        due("checkpoint(1)", x.checkpoint(1), BUSY);
        due("checkpoint(0)", x.checkpoint(0), DOWN);
        due("checkpoint(3)", x.checkpoint(3), BAD);
        due("crash(1)", x.crash(1), BUSY);
        due("crash(0)", x.crash(0), DOWN);
        due("crash(-1)", x.crash(-1), BAD);
        due("restart(0)", x.restart(0), BUSY);
        due("restart(1)", x.restart(1), DOWN);
        due("restart(3)", x.restart(3), BAD);
        due("the same state as before", before.equals(stateOf(x)), true);
        due("the next instance", x.checkpoint(2), 2);
    }

    private static String stateOf(TwoPhaseCuts x) {
        StringBuilder state = new StringBuilder();
        for (int p = 0; p < 5; p++) {
            state.append(x.value(p)).append(' ').append(x.kept(p)).append(' ');
            state.append(x.down(p)).append(' ').append(x.instance(p)).append(' ');
            state.append(x.times(p, 0)).append(' ').append(x.times(p, 1)).append(' ');
            for (int q = 0; q < 5; q++) {
                state.append(x.waiting(p, q)).append(' ');
                for (int which = 0; which < 4; which++) {
                    state.append(x.label(p, q, which)).append(' ');
                }
            }
        }
        for (int i = 0; i < 10; i++) {
            state.append(x.decision(i)).append(' ');
        }
        return state.append(x.notes()).toString();
    }

    private static void longLife() {
        part("512 calls");
        TwoPhaseCuts x = new TwoPhaseCuts(2);
        for (int i = 1; i <= 512; i++) {
            due("checkpoint(0), call " + i, x.checkpoint(0), i);
        }
        x = new TwoPhaseCuts(2);
        for (int i = 1; i <= 511; i++) {
            x.checkpoint(1);
        }
        due("decision(511)", x.decision(511), 1);
        // Past the 512th call the answers are free, but a call may not throw.
        for (int i = 0; i < 2000; i++) {
            x.checkpoint(i % 2);
            x.crash(i % 3);
            x.restart(i % 3);
            x.send(0, 1);
            x.receive(0, 1);
            x.tick();
            x.decision(i);
        }
    }
}
