/** What each promise answers at its boundaries and what it refuses, a test for each sentence. */
public final class BoundariesTest extends Checks {
    public static void main(String[] args) {
        theConstants();
        promises1To3();
        promises4And5();
        promises6To8();
        promises9To13();
        promises14To18();
        theLimitOfCalls();
        finish();
    }

    private static void theConstants() {
        test("BAD = -1", () -> due("BAD", BAD, -1));
        test("DOWN = -2", () -> due("DOWN", DOWN, -2));
        test("BUSY = -3", () -> due("BUSY", BUSY, -3));
        test("NONE = -4", () -> due("NONE", NONE, -4));
    }

    private static void promises1To3() {
        test("1: n processes: processes", () -> madeWith(2, 3, 4, 5));
        test("1: 2 when that is less than 2", BoundariesTest::tooFewProcesses);
        test("1: 5 when it is more than 5", BoundariesTest::tooManyProcesses);
        test("2: The value of a process becomes 31 * value + x: 0", BoundariesTest::workWorks);
        test("2: BAD", BoundariesTest::workBad);
        test("2: DOWN", BoundariesTest::workDown);
        test("2: BUSY (involved in a rollback)", BoundariesTest::workBusy);
        test("2: the first that holds: DOWN, BUSY", BoundariesTest::workDownAndBusy);
        test("3: SENT (p, q) grows by 1", BoundariesTest::sendGrows);
        test("3: put at the end of the channel", BoundariesTest::sendPutsAtTheEnd);
        test("3: BAD", BoundariesTest::sendBad);
        test("3: BAD (also when p is q)", BoundariesTest::sendToItself);
        test("3: DOWN (p is)", BoundariesTest::sendDown);
        test("3: BUSY (p is involved in any instance)", BoundariesTest::sendBusy);
        test("3: NONE (6 messages are there)", BoundariesTest::sendNone);
        test("3: the first that holds", BoundariesTest::sendFirstThatHolds);
    }

    private static void promises4And5() {
        test("4: RECEIVED (q, p) becomes its label", BoundariesTest::receiveLabel);
        test("4: q's value becomes 17 * value + the message's value + 1",
                BoundariesTest::receiveValue);
        test("4: BAD", BoundariesTest::receiveBad);
        test("4: DOWN (q is)", BoundariesTest::receiveDown);
        test("4: BUSY (q is involved in a rollback", BoundariesTest::receiverInRollback);
        test("4: or p is down", BoundariesTest::senderIsDown);
        test("4: or p is down or involved in a rollback)", BoundariesTest::senderInRollback);
        test("4: not BUSY in a checkpoint", BoundariesTest::receiveInCheckpoint);
        test("4: NONE (the channel has no message)", BoundariesTest::receiveNone);
        test("4: the first that holds", BoundariesTest::receiveFirstThatHolds);
        test("5: The first message of the channel p to q is lost: its label",
                BoundariesTest::loseWorks);
        test("5: BAD", BoundariesTest::loseBad);
        test("5: NONE when the channel has no message", BoundariesTest::loseNone);
        test("5: Refused: BAD; NONE (by nothing else)", BoundariesTest::loseIsRefusedByNothingElse);
    }

    private static void promises6To8() {
        test("6: p begins a checkpoint as its root: the number of the instance",
                BoundariesTest::checkpointWorks);
        test("6: BAD", BoundariesTest::checkpointBad);
        test("6: DOWN", BoundariesTest::checkpointDown);
        test("6: BUSY (involved in any)", BoundariesTest::checkpointBusy);
        test("6: the first that holds: DOWN, BUSY",
                () -> due("checkpoint(0), down and a root", inRollback().checkpoint(0), DOWN));
        test("7: p goes down: 0", BoundariesTest::crashWorks);
        test("7: (Its value and labels stay what they are until it rolls back.)",
                BoundariesTest::crashKeepsAll);
        test("7: BAD", BoundariesTest::crashBad);
        test("7: DOWN", BoundariesTest::crashDown);
        test("7: BUSY (involved in any)", BoundariesTest::crashBusy);
        test("7: the first that holds: DOWN, BUSY",
                () -> due("crash(0), down and a root", inRollback().crash(0), DOWN));
        test("8: p, which is down, begins a rollback as its root", BoundariesTest::restartWorks);
        test("8: BAD", BoundariesTest::restartBad);
        test("8: DOWN when it is up", BoundariesTest::restartUp);
        test("8: BUSY (involved in any)",
                () -> due("restart(0), down and a root", inRollback().restart(0), BUSY));
        test("8: the first that holds: DOWN, BUSY", BoundariesTest::restartUpAndInvolved);
        test("8: (If the rollback is aborted, p is down as before.)",
                BoundariesTest::restartAborted);
    }

    private static void promises9To13() {
        test("9: how many notes were delivered", BoundariesTest::tickCounts);
        test("9: how many notes were delivered (none)", BoundariesTest::tickWithoutNotes);
        test("10: The value of a process", BoundariesTest::valueOfAProcess);
        test("10: 0 when there is none", BoundariesTest::valueOfNone);
        test("11: The value in the permanent checkpoint of a process",
                BoundariesTest::keptOfAProcess);
        test("11: 0 when there is none", BoundariesTest::keptOfNone);
        test("12: SENT, RECEIVED, OLD SENT, OLD RECEIVED", BoundariesTest::labelOfEachKind);
        test("12: BAD when which is none of these", BoundariesTest::labelOfNoKind);
        test("12: p or q is no process", BoundariesTest::labelOfNoProcess);
        test("12: or p is q", BoundariesTest::labelOfItself);
        test("13: How many messages are in the channel p to q", BoundariesTest::waitingCounts);
        test("13: BAD when there is none", BoundariesTest::waitingWithoutChannel);
    }

    private static void promises14To18() {
        test("14: Whether a process is down", BoundariesTest::downOfAProcess);
        test("14: Whether a process is down (there is none)", BoundariesTest::downOfNone);
        test("15: The number of the instance in which a process is involved",
                BoundariesTest::instanceOfAProcess);
        test("15: 0 when it is in none", BoundariesTest::instanceOfOneInNone);
        test("15: BAD when there is no such process", BoundariesTest::instanceOfNone);
        test("16: 0 it goes on", BoundariesTest::decisionGoesOn);
        test("16: 1 its root decided commit", BoundariesTest::decisionCommit);
        test("16: 2 abort", BoundariesTest::decisionAbort);
        test("16: BAD when there is none with that number", BoundariesTest::decisionOfNone);
        test("17: How many notes were sent and not delivered", BoundariesTest::notesCounts);
        test("18: How often a process made a tentative checkpoint permanent (which = 0)",
                BoundariesTest::timesMadePermanent);
        test("18: or rolled back (1)", BoundariesTest::timesRolledBack);
        test("18: BAD when there is no such process", BoundariesTest::timesOfNoProcess);
        test("18: or which is neither", BoundariesTest::timesOfNeither);
    }

    private static void theLimitOfCalls() {
        test("at most 512 calls: instances", BoundariesTest::manyInstances);
        test("at most 512 calls: labels", BoundariesTest::manyLabels);
        test("at most 512 calls: notes", BoundariesTest::manyNotes);
        test("at most 512 calls: later ones throw nothing", BoundariesTest::callsPastTheLimit);
    }

    // Promise 1.

    private static void madeWith(int... asked) {
        for (int processes : asked) {
            dueProcesses(processes, processes);
        }
    }

    private static void dueProcesses(int asked, int made) {
        TwoPhaseCuts x = new TwoPhaseCuts(asked);
        for (int p = -1; p <= 6; p++) {
            boolean is = p >= 0 && p < made;
            due("instance(" + p + ") of " + asked, x.instance(p), is ? 0 : BAD);
            due("work(" + p + ", 1) of " + asked, x.work(p, 1), is ? 0 : BAD);
        }
        x.crash(0);
        x.restart(0);
        due("notes(), a request to each other of " + asked, x.notes(), made - 1);
    }

    private static void tooFewProcesses() {
        for (int asked : new int[] {1, 0, -1, -2, LEAST}) {
            dueProcesses(asked, 2);
        }
    }

    private static void tooManyProcesses() {
        for (int asked : new int[] {6, 7, 512, GREATEST}) {
            dueProcesses(asked, 5);
        }
    }

    // Promise 2.

    private static void workWorks() {
        TwoPhaseCuts x = new TwoPhaseCuts(2);
        due("work(0, 7)", x.work(0, 7), 0);
        due("value(0)", x.value(0), 7);
        due("work(0, 0)", x.work(0, 0), 0);
        due("value(0)", x.value(0), 217);
        due("work(0, -218)", x.work(0, -218), 0);
        due("value(0)", x.value(0), 31 * 217 - 218);
        due("value(1)", x.value(1), 0);
    }

    private static void workBad() {
        TwoPhaseCuts x = new TwoPhaseCuts(3);
        for (int p : noProcesses(3)) {
            due("work(" + p + ", 1)", x.work(p, 1), BAD);
        }
    }

    private static void workDown() {
        TwoPhaseCuts x = new TwoPhaseCuts(2);
        x.work(1, 7);
        x.crash(1);
        due("work(1, 1)", x.work(1, 1), DOWN);
        due("value(1)", x.value(1), 7);
        due("work(0, 1), the other is down", x.work(0, 1), 0);
    }

    private static void workBusy() {
        TwoPhaseCuts r = inRollback();
        due("work(1, 1)", r.work(1, 1), BUSY);
        due("work(2, 1), in none", r.work(2, 1), 0);
        settle(r);
        due("work(1, 1), no more", r.work(1, 1), 0);
        TwoPhaseCuts c = inCheckpoint();
        due("work(1, 1), the root of a checkpoint", c.work(1, 1), 0);
        due("work(0, 1), it joined a checkpoint", c.work(0, 1), 0);
        due("value(0)", c.value(0), 31 * 3 + 1);
    }

    private static void workDownAndBusy() {
        due("work(0, 1), down and a root", inRollback().work(0, 1), DOWN);
    }

    // Promise 3.

    private static void sendGrows() {
        TwoPhaseCuts x = new TwoPhaseCuts(3);
        due("send(0, 1)", x.send(0, 1), 1);
        due("send(0, 1)", x.send(0, 1), 2);
        due("send(0, 2)", x.send(0, 2), 1);
        due("send(1, 0)", x.send(1, 0), 1);
        due("label(0, 1, 0)", x.label(0, 1, 0), 2);
        due("value(0), as it was", x.value(0), 0);
        x.lose(0, 1);
        x.lose(0, 1);
        due("send(0, 1), after losses", x.send(0, 1), 3);
    }

    private static void sendPutsAtTheEnd() {
        TwoPhaseCuts x = new TwoPhaseCuts(2);
        for (int i = 0; i < 3; i++) {
            x.work(0, i);
            x.send(0, 1);
        }
        due("receive(0, 1)", x.receive(0, 1), 1);
        due("value(1), of 0", x.value(1), 1);
        x.send(0, 1);
        due("receive(0, 1)", x.receive(0, 1), 2);
        due("value(1), of 1", x.value(1), 17 + 1 + 1);
        due("receive(0, 1)", x.receive(0, 1), 3);
        due("value(1), of 33", x.value(1), 17 * 19 + 33 + 1);
        due("receive(0, 1)", x.receive(0, 1), 4);
    }

    private static void sendBad() {
        TwoPhaseCuts x = new TwoPhaseCuts(3);
        for (int p : noProcesses(3)) {
            due("send(" + p + ", 0)", x.send(p, 0), BAD);
            due("send(0, " + p + ")", x.send(0, p), BAD);
            due("send(" + p + ", " + p + ")", x.send(p, p), BAD);
        }
    }

    private static void sendToItself() {
        TwoPhaseCuts x = new TwoPhaseCuts(5);
        for (int p = 0; p < 5; p++) {
            due("send(" + p + ", " + p + ")", x.send(p, p), BAD);
        }
    }

    private static void sendDown() {
        TwoPhaseCuts x = new TwoPhaseCuts(2);
        x.crash(0);
        due("send(0, 1)", x.send(0, 1), DOWN);
        due("send(1, 0), to one that is down", x.send(1, 0), 1);
        due("waiting(1, 0)", x.waiting(1, 0), 1);
    }

    private static void sendBusy() {
        TwoPhaseCuts c = inCheckpoint();
        due("send(1, 2), the root of a checkpoint", c.send(1, 2), BUSY);
        due("send(0, 2), it joined a checkpoint", c.send(0, 2), BUSY);
        due("send(2, 0), to one in a checkpoint", c.send(2, 0), 2);
        TwoPhaseCuts r = inRollback();
        due("send(1, 2), it joined a rollback", r.send(1, 2), BUSY);
        due("send(2, 1), to one in a rollback", r.send(2, 1), 2);
    }

    private static void sendNone() {
        TwoPhaseCuts x = new TwoPhaseCuts(2);
        sendMany(x, 0, 1, 5);
        due("send(0, 1), the sixth", x.send(0, 1), 6);
        due("send(0, 1), the seventh", x.send(0, 1), NONE);
        due("label(0, 1, 0)", x.label(0, 1, 0), 6);
        due("waiting(0, 1)", x.waiting(0, 1), 6);
        x.lose(0, 1);
        due("send(0, 1)", x.send(0, 1), 7);
    }

    private static void sendFirstThatHolds() {
        TwoPhaseCuts x = new TwoPhaseCuts(3);
        sendMany(x, 0, 1, 6);
        x.crash(0);
        due("send(0, 0), p is q and down", x.send(0, 0), BAD);
        due("send(0, 3), no q, and p is down", x.send(0, 3), BAD);
        due("send(0, -1), no q, and p is down", x.send(0, -1), BAD);
        due("send(0, 1), down and full", x.send(0, 1), DOWN);
        x.restart(0);
        due("send(0, 1), down, a root, and full", x.send(0, 1), DOWN);
        due("send(0, 2), down and a root", x.send(0, 2), DOWN);
        TwoPhaseCuts y = inCheckpoint();
        due("send(1, 1), p is q and in a checkpoint", y.send(1, 1), BAD);
        due("send(1, 3), no q, and p is in a checkpoint", y.send(1, 3), BAD);
        TwoPhaseCuts z = new TwoPhaseCuts(3);
        pass(z, 0, 1);
        sendMany(z, 1, 2, 6);
        z.checkpoint(1);
        due("send(1, 2), in a checkpoint and full", z.send(1, 2), BUSY);
    }

    // Promise 4.

    private static void receiveLabel() {
        TwoPhaseCuts x = new TwoPhaseCuts(3);
        sendMany(x, 0, 1, 3);
        due("receive(0, 1)", x.receive(0, 1), 1);
        due("label(1, 0, 1)", x.label(1, 0, 1), 1);
        due("waiting(0, 1)", x.waiting(0, 1), 2);
        x.lose(0, 1);
        due("receive(0, 1), after a loss", x.receive(0, 1), 3);
        due("label(1, 0, 1)", x.label(1, 0, 1), 3);
        due("label(0, 1, 1)", x.label(0, 1, 1), 0);
        due("label(1, 2, 1)", x.label(1, 2, 1), 0);
    }

    private static void receiveValue() {
        TwoPhaseCuts x = new TwoPhaseCuts(2);
        x.work(0, 5);
        x.work(1, 2);
        x.send(0, 1);
        x.receive(0, 1);
        due("value(1)", x.value(1), 40);
        due("value(0)", x.value(0), 5);
        x.work(0, -200);
        x.send(0, 1);
        x.receive(0, 1);
        due("value(1), by a value below 0", x.value(1), 17 * 40 - 45 + 1);
    }

    private static void receiveBad() {
        TwoPhaseCuts x = new TwoPhaseCuts(3);
        oneOnEveryChannel(x, 3);
        for (int p : noProcesses(3)) {
            due("receive(" + p + ", 0)", x.receive(p, 0), BAD);
            due("receive(0, " + p + ")", x.receive(0, p), BAD);
        }
        for (int p = 0; p < 3; p++) {
            due("receive(" + p + ", " + p + "), no such channel", x.receive(p, p), BAD);
        }
    }

    private static void receiveDown() {
        TwoPhaseCuts x = new TwoPhaseCuts(2);
        x.send(0, 1);
        x.crash(1);
        due("receive(0, 1)", x.receive(0, 1), DOWN);
        due("waiting(0, 1)", x.waiting(0, 1), 1);
    }

    private static void receiverInRollback() {
        TwoPhaseCuts x = inRollback();
        due("receive(2, 1)", x.receive(2, 1), BUSY);
        settle(x);
        due("receive(2, 1), no more", x.receive(2, 1), 1);
    }

    private static void senderIsDown() {
        TwoPhaseCuts x = new TwoPhaseCuts(2);
        x.send(0, 1);
        x.crash(0);
        due("receive(0, 1)", x.receive(0, 1), BUSY);
        due("waiting(0, 1)", x.waiting(0, 1), 1);
    }

    private static void senderInRollback() {
        TwoPhaseCuts x = inRollback();
        due("receive(1, 2), it joined", x.receive(1, 2), BUSY);
        due("receive(0, 2), the root", x.receive(0, 2), BUSY);
        due("label(2, 1, 1)", x.label(2, 1, 1), 0);
    }

    private static void receiveInCheckpoint() {
        TwoPhaseCuts x = inCheckpoint();
        due("receive(2, 1), to the root", x.receive(2, 1), 1);
        due("receive(2, 0), to one that joined", x.receive(2, 0), 1);
        due("receive(1, 2), from the root", x.receive(1, 2), 1);
        due("receive(0, 2), from one that joined", x.receive(0, 2), 1);
        due("receive(0, 1), both are in it", x.receive(0, 1), 2);
    }

    private static void receiveNone() {
        TwoPhaseCuts x = new TwoPhaseCuts(2);
        due("receive(0, 1), never sent", x.receive(0, 1), NONE);
        x.send(0, 1);
        due("receive(1, 0), the other way", x.receive(1, 0), NONE);
        x.receive(0, 1);
        due("receive(0, 1), received", x.receive(0, 1), NONE);
        x.send(0, 1);
        x.lose(0, 1);
        due("receive(0, 1), lost", x.receive(0, 1), NONE);
        due("label(1, 0, 1)", x.label(1, 0, 1), 1);
        due("value(1)", x.value(1), 1);
    }

    private static void receiveFirstThatHolds() {
        TwoPhaseCuts x = new TwoPhaseCuts(3);
        x.send(0, 1);
        x.crash(0);
        x.crash(1);
        due("receive(1, 1), p is q and down", x.receive(1, 1), BAD);
        due("receive(3, 1), no p, and q is down", x.receive(3, 1), BAD);
        due("receive(0, 1), both are down", x.receive(0, 1), DOWN);
        due("receive(2, 1), down, no message", x.receive(2, 1), DOWN);
        due("receive(0, 2), p is down, no message", x.receive(0, 2), BUSY);
        TwoPhaseCuts r = inRollback();
        due("receive(1, 0), q is down and a root, p joined", r.receive(1, 0), DOWN);
        due("receive(0, 1), q joined, p is down", r.receive(0, 1), BUSY);
        due("receive(1, 1), p is q, it joined", r.receive(1, 1), BAD);
        emptyEveryChannel(r, 3);
        due("receive(2, 0), down and a root, no message", r.receive(2, 0), DOWN);
        due("receive(2, 1), q joined, no message", r.receive(2, 1), BUSY);
        due("receive(1, 2), p joined, no message", r.receive(1, 2), BUSY);
    }

    // Promise 5.

    private static void loseWorks() {
        TwoPhaseCuts x = new TwoPhaseCuts(2);
        sendMany(x, 0, 1, 2);
        due("lose(0, 1)", x.lose(0, 1), 1);
        due("waiting(0, 1)", x.waiting(0, 1), 1);
        due("label(0, 1, 0)", x.label(0, 1, 0), 2);
        due("label(1, 0, 1)", x.label(1, 0, 1), 0);
        due("value(1)", x.value(1), 0);
        due("lose(0, 1)", x.lose(0, 1), 2);
    }

    private static void loseBad() {
        TwoPhaseCuts x = new TwoPhaseCuts(3);
        oneOnEveryChannel(x, 3);
        for (int p : noProcesses(3)) {
            due("lose(" + p + ", 0)", x.lose(p, 0), BAD);
            due("lose(0, " + p + ")", x.lose(0, p), BAD);
        }
        for (int p = 0; p < 3; p++) {
            due("lose(" + p + ", " + p + "), no such channel", x.lose(p, p), BAD);
        }
    }

    private static void loseNone() {
        TwoPhaseCuts x = new TwoPhaseCuts(2);
        due("lose(0, 1), never sent", x.lose(0, 1), NONE);
        x.send(0, 1);
        due("lose(1, 0), the other way", x.lose(1, 0), NONE);
        x.lose(0, 1);
        due("lose(0, 1), lost", x.lose(0, 1), NONE);
        pass(x, 0, 1);
        due("lose(0, 1), received", x.lose(0, 1), NONE);
        x.crash(0);
        due("lose(0, 1), down, no message", x.lose(0, 1), NONE);
    }

    private static void loseIsRefusedByNothingElse() {
        TwoPhaseCuts x = new TwoPhaseCuts(2);
        x.send(0, 1);
        x.send(1, 0);
        x.crash(0);
        due("lose(0, 1), p is down", x.lose(0, 1), 1);
        due("lose(1, 0), q is down", x.lose(1, 0), 1);
        TwoPhaseCuts r = inRollback();
        due("lose(0, 1), both are in a rollback", r.lose(0, 1), 2);
        due("lose(1, 2), p is in a rollback", r.lose(1, 2), 1);
        due("lose(2, 1), q is in a rollback", r.lose(2, 1), 1);
        TwoPhaseCuts c = inCheckpoint();
        due("lose(0, 1), both are in a checkpoint", c.lose(0, 1), 2);
        due("lose(1, 2), p is in a checkpoint", c.lose(1, 2), 1);
    }

    // Promise 6.

    private static void checkpointWorks() {
        TwoPhaseCuts x = new TwoPhaseCuts(3);
        due("checkpoint(2), no cohort", x.checkpoint(2), 1);
        pass(x, 0, 1);
        due("checkpoint(1)", x.checkpoint(1), 2);
        due("instance(1)", x.instance(1), 2);
        due("checkpoint(2), beside it", x.checkpoint(2), 3);
        settle(x);
        due("decision(2)", x.decision(2), 1);
        due("checkpoint(1), again", x.checkpoint(1), 4);
    }

    private static void checkpointBad() {
        TwoPhaseCuts x = new TwoPhaseCuts(3);
        for (int p : noProcesses(3)) {
            due("checkpoint(" + p + ")", x.checkpoint(p), BAD);
        }
        due("decision(1)", x.decision(1), BAD);
    }

    private static void checkpointDown() {
        TwoPhaseCuts x = new TwoPhaseCuts(2);
        x.crash(1);
        due("checkpoint(1)", x.checkpoint(1), DOWN);
        due("checkpoint(0), the other is down", x.checkpoint(0), 1);
    }

    private static void checkpointBusy() {
        TwoPhaseCuts c = inCheckpoint();
        due("checkpoint(1), the root of a checkpoint", c.checkpoint(1), BUSY);
        due("checkpoint(0), it joined a checkpoint", c.checkpoint(0), BUSY);
        due("checkpoint(1), it joined a rollback", inRollback().checkpoint(1), BUSY);
    }

    // Promise 7.

    private static void crashWorks() {
        TwoPhaseCuts x = new TwoPhaseCuts(3);
        due("crash(0)", x.crash(0), 0);
        due("down(0)", x.down(0), true);
        due("down(1)", x.down(1), false);
        due("crash(1)", x.crash(1), 0);
        due("crash(2), the last", x.crash(2), 0);
        due("notes()", x.notes(), 0);
    }

    private static void crashKeepsAll() {
        TwoPhaseCuts x = new TwoPhaseCuts(2);
        x.work(0, 3);
        x.checkpoint(0);
        x.work(0, 4);
        sendMany(x, 0, 1, 2);
        pass(x, 1, 0);
        sendMany(x, 1, 0, 2);
        int before = x.value(0);
        x.crash(0);
        x.restart(0);
        ticks(x, 1);
        due("value(0)", x.value(0), before);
        due("label(0, 1, 0)", x.label(0, 1, 0), 2);
        due("label(0, 1, 1)", x.label(0, 1, 1), 1);
        due("waiting(0, 1)", x.waiting(0, 1), 2);
        due("waiting(1, 0)", x.waiting(1, 0), 2);
        ticks(x, 1);
        due("value(0), rolled back", x.value(0), 3);
        due("label(0, 1, 0), rolled back", x.label(0, 1, 0), 0);
        due("label(0, 1, 1), rolled back", x.label(0, 1, 1), 0);
    }

    private static void crashBad() {
        TwoPhaseCuts x = new TwoPhaseCuts(3);
        for (int p : noProcesses(3)) {
            due("crash(" + p + ")", x.crash(p), BAD);
        }
    }

    private static void crashDown() {
        TwoPhaseCuts x = new TwoPhaseCuts(2);
        x.crash(0);
        due("crash(0)", x.crash(0), DOWN);
        due("down(0)", x.down(0), true);
    }

    private static void crashBusy() {
        TwoPhaseCuts c = inCheckpoint();
        due("crash(1), the root of a checkpoint", c.crash(1), BUSY);
        due("crash(0), it joined a checkpoint", c.crash(0), BUSY);
        due("down(0)", c.down(0), false);
        due("crash(1), it joined a rollback", inRollback().crash(1), BUSY);
    }

    // Promise 8.

    private static void restartWorks() {
        TwoPhaseCuts x = new TwoPhaseCuts(3);
        x.checkpoint(0);
        x.work(0, 5);
        x.crash(0);
        due("restart(0)", x.restart(0), 2);
        due("instance(0)", x.instance(0), 2);
        due("down(0), it goes on", x.down(0), true);
        due("value(0), it goes on", x.value(0), 5);
        ticks(x, 2, 2);
        due("decision(2)", x.decision(2), 1);
        due("down(0)", x.down(0), false);
        due("value(0)", x.value(0), 0);
        due("times(0, 1)", x.times(0, 1), 1);
    }

    private static void restartBad() {
        TwoPhaseCuts x = new TwoPhaseCuts(3);
        for (int p : noProcesses(3)) {
            due("restart(" + p + ")", x.restart(p), BAD);
        }
    }

    private static void restartUp() {
        TwoPhaseCuts x = new TwoPhaseCuts(2);
        due("restart(0)", x.restart(0), DOWN);
        x.crash(1);
        due("restart(0), the other is down", x.restart(0), DOWN);
        due("decision(1)", x.decision(1), BAD);
        rollBackWhole(x, 1);
        due("restart(1), up again", x.restart(1), DOWN);
    }

    private static void restartUpAndInvolved() {
        TwoPhaseCuts c = inCheckpoint();
        due("restart(1), the root of a checkpoint", c.restart(1), DOWN);
        due("restart(0), it joined a checkpoint", c.restart(0), DOWN);
        due("restart(1), it joined a rollback", inRollback().restart(1), DOWN);
    }

    private static void restartAborted() {
        TwoPhaseCuts x = inCheckpoint();
        x.work(2, 1);
        x.crash(2);
        due("restart(2)", x.restart(2), 2);
        settle(x);
        due("decision(2)", x.decision(2), 2);
        due("down(2)", x.down(2), true);
        due("instance(2)", x.instance(2), 0);
        due("value(2)", x.value(2), 31 * 5 + 1);
        due("label(2, 1, 0)", x.label(2, 1, 0), 1);
        due("waiting(2, 1)", x.waiting(2, 1), 1);
        due("times(2, 1)", x.times(2, 1), 0);
        due("work(2, 1)", x.work(2, 1), DOWN);
        due("restart(2), again", x.restart(2), 3);
        settle(x);
        due("down(2)", x.down(2), false);
        due("value(2)", x.value(2), 0);
    }

    // Promises 9 to 13.

    private static void tickCounts() {
        TwoPhaseCuts x = new TwoPhaseCuts(5);
        for (int p = 1; p < 5; p++) {
            pass(x, p, 0);
        }
        x.checkpoint(0);
        ticks(x, 4, 4, 4, 0);
        pass(x, 3, 4);
        x.checkpoint(4);
        x.crash(0);
        x.restart(0);
        ticks(x, 5, 5, 5, 0);
        due("decision(3), 4 was in a checkpoint", x.decision(3), 2);
    }

    private static void tickWithoutNotes() {
        TwoPhaseCuts x = new TwoPhaseCuts(2);
        x.work(0, 4);
        x.send(0, 1);
        x.checkpoint(0);
        String before = stateOf(x, 2);
        ticks(x, 0, 0, 0);
        due("the same state as before", stateOf(x, 2).equals(before), true);
    }

    private static void valueOfAProcess() {
        TwoPhaseCuts x = new TwoPhaseCuts(3);
        x.work(0, 11);
        x.work(2, -13);
        due("value(0)", x.value(0), 11);
        due("value(1)", x.value(1), 0);
        due("value(2)", x.value(2), -13);
        x.crash(2);
        due("value(2), down", x.value(2), -13);
    }

    private static void valueOfNone() {
        TwoPhaseCuts x = new TwoPhaseCuts(3);
        for (int p = 0; p < 3; p++) {
            x.work(p, 11 + p);
        }
        for (int p : noProcesses(3)) {
            due("value(" + p + ")", x.value(p), 0);
        }
    }

    private static void keptOfAProcess() {
        TwoPhaseCuts x = new TwoPhaseCuts(3);
        x.work(0, 11);
        due("kept(0), at first", x.kept(0), 0);
        x.checkpoint(0);
        due("kept(0)", x.kept(0), 11);
        x.work(0, 1);
        due("kept(0), not its value", x.kept(0), 11);
        due("kept(1)", x.kept(1), 0);
        x.checkpoint(0);
        due("kept(0), the later one", x.kept(0), 342);
        x.crash(0);
        due("kept(0), down", x.kept(0), 342);
    }

    private static void keptOfNone() {
        TwoPhaseCuts x = new TwoPhaseCuts(3);
        for (int p = 0; p < 3; p++) {
            x.work(p, 11 + p);
            x.checkpoint(p);
        }
        for (int p : noProcesses(3)) {
            due("kept(" + p + ")", x.kept(p), 0);
        }
    }

    /** 0 sent 4 messages to 1 and has 3 of it; 2 and 1 of them were kept. */
    private static TwoPhaseCuts withFourLabels() {
        TwoPhaseCuts x = new TwoPhaseCuts(3);
        sendMany(x, 0, 1, 2);
        pass(x, 1, 0);
        x.checkpoint(0);
        settle(x);
        sendMany(x, 0, 1, 2);
        pass(x, 1, 0);
        pass(x, 1, 0);
        return x;
    }

    private static void labelOfEachKind() {
        TwoPhaseCuts x = withFourLabels();
        due("label(0, 1, 0)", x.label(0, 1, 0), 4);
        due("label(0, 1, 1)", x.label(0, 1, 1), 3);
        due("label(0, 1, 2)", x.label(0, 1, 2), 2);
        due("label(0, 1, 3)", x.label(0, 1, 3), 1);
        due("label(1, 0, 0)", x.label(1, 0, 0), 3);
        due("label(1, 0, 1)", x.label(1, 0, 1), 0);
        due("label(1, 0, 2)", x.label(1, 0, 2), 1);
        due("label(0, 2, 0)", x.label(0, 2, 0), 0);
    }

    private static void labelOfNoKind() {
        TwoPhaseCuts x = withFourLabels();
        for (int which : new int[] {-1, 4, 5, LEAST, GREATEST}) {
            due("label(0, 1, " + which + ")", x.label(0, 1, which), BAD);
        }
    }

    private static void labelOfNoProcess() {
        TwoPhaseCuts x = withFourLabels();
        for (int which = 0; which < 4; which++) {
            for (int p : noProcesses(3)) {
                due("label(" + p + ", 0, " + which + ")", x.label(p, 0, which), BAD);
                due("label(0, " + p + ", " + which + ")", x.label(0, p, which), BAD);
            }
        }
    }

    private static void labelOfItself() {
        TwoPhaseCuts x = withFourLabels();
        for (int which = -1; which <= 4; which++) {
            for (int p = 0; p < 3; p++) {
                due("label(" + p + ", " + p + ", " + which + ")", x.label(p, p, which), BAD);
            }
        }
    }

    private static void waitingCounts() {
        TwoPhaseCuts x = new TwoPhaseCuts(3);
        for (int i = 0; i < 6; i++) {
            due("waiting(0, 1)", x.waiting(0, 1), i);
            x.send(0, 1);
        }
        due("waiting(0, 1), full", x.waiting(0, 1), 6);
        due("waiting(1, 0)", x.waiting(1, 0), 0);
        due("waiting(0, 2)", x.waiting(0, 2), 0);
        x.receive(0, 1);
        x.lose(0, 1);
        due("waiting(0, 1)", x.waiting(0, 1), 4);
    }

    private static void waitingWithoutChannel() {
        TwoPhaseCuts x = new TwoPhaseCuts(3);
        for (int p : noProcesses(3)) {
            due("waiting(" + p + ", 0)", x.waiting(p, 0), BAD);
            due("waiting(0, " + p + ")", x.waiting(0, p), BAD);
            due("waiting(" + p + ", " + p + ")", x.waiting(p, p), BAD);
        }
        for (int p = 0; p < 3; p++) {
            due("waiting(" + p + ", " + p + ")", x.waiting(p, p), BAD);
        }
    }

    // Promises 14 to 18.

    private static void downOfAProcess() {
        TwoPhaseCuts x = new TwoPhaseCuts(3);
        due("down(2)", x.down(2), false);
        x.crash(2);
        due("down(2)", x.down(2), true);
        due("down(1)", x.down(1), false);
        x.restart(2);
        due("down(2), it rolls back", x.down(2), true);
        settle(x);
        due("down(2)", x.down(2), false);
    }

    private static void downOfNone() {
        TwoPhaseCuts x = new TwoPhaseCuts(3);
        for (int p = 0; p < 3; p++) {
            x.crash(p);
        }
        for (int p : noProcesses(3)) {
            due("down(" + p + ")", x.down(p), false);
        }
    }

    private static void instanceOfAProcess() {
        TwoPhaseCuts x = new TwoPhaseCuts(3);
        x.checkpoint(0);
        x.checkpoint(0);
        pass(x, 0, 1);
        x.checkpoint(1);
        due("instance(1), the root", x.instance(1), 3);
        x.tick();
        due("instance(0), it joined", x.instance(0), 3);
        x.crash(2);
        x.restart(2);
        due("instance(2), the root", x.instance(2), 4);
    }

    private static void instanceOfOneInNone() {
        TwoPhaseCuts x = new TwoPhaseCuts(3);
        due("instance(0), at first", x.instance(0), 0);
        x.checkpoint(0);
        due("instance(0), decided at once", x.instance(0), 0);
        x.crash(1);
        due("instance(1), down", x.instance(1), 0);
        x.restart(1);
        settle(x);
        due("instance(1), decided", x.instance(1), 0);
        due("instance(2), it was asked and did not join", x.instance(2), 0);
    }

    private static void instanceOfNone() {
        TwoPhaseCuts x = new TwoPhaseCuts(3);
        for (int p : noProcesses(3)) {
            due("instance(" + p + ")", x.instance(p), BAD);
        }
    }

    private static void decisionGoesOn() {
        TwoPhaseCuts x = inCheckpoint();
        due("decision(1), a checkpoint", x.decision(1), 0);
        due("decision(1), a rollback", inRollback().decision(1), 0);
    }

    private static void decisionCommit() {
        TwoPhaseCuts x = inCheckpoint();
        x.tick();
        due("decision(1), before all follow it", x.decision(1), 1);
        settle(x);
        x.checkpoint(2);
        due("decision(1), later", x.decision(1), 1);
        due("decision(2)", x.decision(2), 1);
        TwoPhaseCuts r = inRollback();
        settle(r);
        due("decision(1), a rollback", r.decision(1), 1);
    }

    private static void decisionAbort() {
        TwoPhaseCuts x = inCheckpoint();
        x.crash(2);
        x.restart(2);
        settle(x);
        due("decision(2), a rollback", x.decision(2), 2);
        due("decision(1)", x.decision(1), 1);
        TwoPhaseCuts y = new TwoPhaseCuts(2);
        pass(y, 0, 1);
        y.crash(0);
        y.checkpoint(1);
        settle(y);
        due("decision(1), a checkpoint", y.decision(1), 2);
        y.restart(0);
        settle(y);
        due("decision(1), later", y.decision(1), 2);
        due("decision(2)", y.decision(2), 1);
    }

    private static void decisionOfNone() {
        TwoPhaseCuts x = new TwoPhaseCuts(2);
        due("decision(1), none has begun", x.decision(1), BAD);
        due("decision(0)", x.decision(0), BAD);
        x.checkpoint(0);
        x.checkpoint(1);
        due("decision(2)", x.decision(2), 1);
        for (int number : new int[] {3, 0, -1, 511, 512, 513, 514, LEAST, GREATEST}) {
            due("decision(" + number + ")", x.decision(number), BAD);
        }
    }

    private static void notesCounts() {
        TwoPhaseCuts x = new TwoPhaseCuts(5);
        due("notes(), at first", x.notes(), 0);
        x.checkpoint(0);
        due("notes(), no cohort", x.notes(), 0);
        x.crash(0);
        due("notes(), a crash sends none", x.notes(), 0);
        x.restart(0);
        due("notes(), requests", x.notes(), 4);
        x.crash(1);
        x.restart(1);
        due("notes(), requests", x.notes(), 8);
        x.restart(1);
        due("notes(), a refused call", x.notes(), 8);
        x.tick();
        due("notes(), answers", x.notes(), 8);
        x.tick();
        due("notes(), decisions", x.notes(), 8);
        x.tick();
        due("notes()", x.notes(), 0);
    }

    private static void timesMadePermanent() {
        TwoPhaseCuts x = new TwoPhaseCuts(3);
        due("times(0, 0), the one of the beginning", x.times(0, 0), 0);
        x.checkpoint(0);
        x.checkpoint(0);
        due("times(0, 0)", x.times(0, 0), 2);
        pass(x, 0, 1);
        x.checkpoint(1);
        due("times(1, 0), tentative", x.times(1, 0), 0);
        settle(x);
        due("times(0, 0)", x.times(0, 0), 3);
        due("times(1, 0)", x.times(1, 0), 1);
        due("times(2, 0)", x.times(2, 0), 0);
        pass(x, 0, 1);
        x.crash(0);
        x.checkpoint(1);
        settle(x);
        due("times(1, 0), after an abort", x.times(1, 0), 1);
        due("times(1, 1)", x.times(1, 1), 0);
    }

    private static void timesRolledBack() {
        TwoPhaseCuts x = new TwoPhaseCuts(3);
        pass(x, 0, 1);
        rollBackWhole(x, 0);
        due("times(0, 1)", x.times(0, 1), 1);
        due("times(1, 1)", x.times(1, 1), 1);
        due("times(2, 1)", x.times(2, 1), 0);
        rollBackWhole(x, 0);
        due("times(0, 1)", x.times(0, 1), 2);
        due("times(1, 1)", x.times(1, 1), 1);
        x.crash(0);
        x.crash(1);
        x.restart(0);
        x.restart(1);
        settle(x);
        due("times(0, 1), after an abort", x.times(0, 1), 2);
        due("times(0, 0)", x.times(0, 0), 0);
    }

    private static void timesOfNoProcess() {
        TwoPhaseCuts x = new TwoPhaseCuts(3);
        for (int p : noProcesses(3)) {
            due("times(" + p + ", 0)", x.times(p, 0), BAD);
            due("times(" + p + ", 1)", x.times(p, 1), BAD);
        }
    }

    private static void timesOfNeither() {
        TwoPhaseCuts x = new TwoPhaseCuts(3);
        for (int which : new int[] {-1, 2, 3, LEAST, GREATEST}) {
            due("times(0, " + which + ")", x.times(0, which), BAD);
        }
    }

    // The 512 calls.

    private static void manyInstances() {
        TwoPhaseCuts x = new TwoPhaseCuts(2);
        for (int i = 1; i <= 512; i++) {
            due("checkpoint(0), call " + i, x.checkpoint(0), i);
        }
        TwoPhaseCuts y = new TwoPhaseCuts(2);
        for (int i = 1; i <= 511; i++) {
            y.checkpoint(1);
        }
        due("decision(511), call 512", y.decision(511), 1);
        TwoPhaseCuts z = new TwoPhaseCuts(2);
        for (int i = 1; i <= 511; i++) {
            z.checkpoint(1);
        }
        due("decision(512), call 512", z.decision(512), BAD);
    }

    private static void manyLabels() {
        TwoPhaseCuts x = new TwoPhaseCuts(2);
        for (int i = 1; i <= 255; i++) {
            due("send(0, 1)", x.send(0, 1), i);
            due("receive(0, 1)", x.receive(0, 1), i);
        }
        due("label(0, 1, 0), call 511", x.label(0, 1, 0), 255);
        due("label(1, 0, 1), call 512", x.label(1, 0, 1), 255);
    }

    /** Five roots that ask all others, over and over: the most notes that can be under way. */
    private static void manyNotes() {
        TwoPhaseCuts x = new TwoPhaseCuts(5);
        for (int p = 0; p < 5; p++) {
            x.crash(p);
        }
        for (int round = 0; round < 60; round++) {
            for (int p = 0; p < 5; p++) {
                due("restart(" + p + ")", x.restart(p), 5 * round + p + 1);
            }
            // From the second round on, the aborts of the last one are delivered beside.
            ticks(x, round == 0 ? 20 : 40, 20);
            due("decision", x.decision(5 * round + 1), 2);
        }
        due("tick()", x.tick(), 20);
    }

    private static void callsPastTheLimit() {
        TwoPhaseCuts x = new TwoPhaseCuts(3);
        for (int i = 0; i < 5000; i++) {
            x.work(i % 4, i);
            x.send(i % 3, (i + 1) % 3);
            x.receive(i % 3, (i + 1) % 3);
            x.checkpoint(i % 4);
            x.crash(i % 5);
            x.restart(i % 5);
            x.decision(i);
            x.tick();
        }
    }
}
