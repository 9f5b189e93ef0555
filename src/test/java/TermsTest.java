/** Each sentence of the document's part 'Terms', quoted, with a test of its own. */
public final class TermsTest extends Checks {
    public static void main(String[] args) {
        processesAndChannels();
        checkpointsAndInstances();
        notesAndJoining();
        requests();
        answersAndDecisions();
        rollingBack();
        finish();
    }

    private static void processesAndChannels() {
        test("PROCESSES are numbered 0 .. n - 1.", TermsTest::numbersOfProcesses);
        test("Each has a VALUE, an int, 0 at first", TermsTest::valueAtFirst);
        test("all arithmetic wraps (work)", TermsTest::workWraps);
        test("all arithmetic wraps (receive)", TermsTest::receiveWraps);
        test("and is UP (at first) or DOWN", TermsTest::upAtFirst);
        test("For any two different processes there is a CHANNEL p to q",
                TermsTest::aChannelForAnyTwo);
        test("a line", TermsTest::channelIsALine);
        test("of at most 6 MESSAGES", TermsTest::atMostSix);
        test("each with a value and a LABEL", TermsTest::messageHasValueAndLabel);
        test("SENT (p, q) and RECEIVED (p, q) are labels, 0 at first", TermsTest::labelsAtFirst);
        test("For a process p and another one q", TermsTest::labelsAreOfTwo);
    }

    private static void checkpointsAndInstances() {
        test("A CHECKPOINT of p is a copy of its value, of SENT (p, q) and of RECEIVED (p, q)",
                TermsTest::checkpointIsACopy);
        test("for all q", TermsTest::checkpointIsOfAllOthers);
        test("Each process has a PERMANENT one (at first that of the beginning)",
                TermsTest::permanentAtFirst);
        test("and may have a TENTATIVE one", TermsTest::tentativeIsNotPermanent);
        test("OLD SENT (p, q) and OLD RECEIVED (p, q) are those of p's permanent checkpoint",
                TermsTest::oldLabels);
        test("INSTANCES are numbered 1, 2, .. in the order in which they begin",
                TermsTest::numbersOfInstances);
        test("A process can be INVOLVED in one instance at a time",
                TermsTest::involvedInOneAtATime);
        test("involved in a checkpoint has a tentative checkpoint and does not send",
                TermsTest::inACheckpointItDoesNotSend);
        test("involved in a rollback does nothing (it does not work, send or receive)",
                TermsTest::inARollbackItDoesNothing);
    }

    private static void notesAndJoining() {
        test("They are not lost.", TermsTest::notesAreNotLost);
        test("Every tick DELIVERS all notes that were sent before it", TermsTest::allAreDelivered);
        test("in the order in which they were sent", TermsTest::orderOfDelivery);
        test("in the order in which they were sent (after many notes)",
                TermsTest::orderAfterManyNotes);
        test("what is sent in a tick is delivered in the next one", TermsTest::sentInATick);
        test("A process that JOINS an instance becomes involved in it",
                TermsTest::joiningIsInvolving);
        test("for a checkpoint it takes its tentative checkpoint then",
                TermsTest::tentativeOfTheJoining);
        test("sends requests to its COHORT, by growing numbers (checkpoint)",
                TermsTest::checkpointAsksByGrowingNumbers);
        test("sends requests to its COHORT, by growing numbers (rollback)",
                TermsTest::rollbackAsksByGrowingNumbers);
        test("to every q for which RECEIVED (p, q) is greater than OLD RECEIVED (p, q)",
                TermsTest::checkpointCohort);
        test("to every q for which RECEIVED (p, q) is greater (no q)", TermsTest::noCohort);
        test("to every q (the cohort is that of the joining)", TermsTest::cohortOfTheJoining);
        test("with the label RECEIVED (p, q)", TermsTest::labelOfACheckpointRequest);
        test("for a rollback to every other process q", TermsTest::rollbackCohort);
        test("with the label OLD SENT (p, q)", TermsTest::labelOfARollbackRequest);
        test("The ROOT of an instance, which begins it, joins it first",
                TermsTest::rootJoinsFirst);
    }

    private static void requests() {
        test("if q is involved in i, it answers yes (checkpoint)",
                TermsTest::involvedThereInCheckpoint);
        test("if q is involved in i, it answers yes (rollback)",
                TermsTest::involvedThereInRollback);
        test("if q is involved in i, it answers yes (and does not join again)",
                TermsTest::involvedThereDoesNotJoinAgain);
        test("if q is involved in another instance, it answers no (both checkpoints)",
                TermsTest::checkpointAsksOneInCheckpoint);
        test("if q is involved in another instance, it answers no (checkpoint asks rollback)",
                TermsTest::checkpointAsksOneInRollback);
        test("if q is involved in another instance, it answers no (rollback asks checkpoint)",
                TermsTest::rollbackAsksOneInCheckpoint);
        test("if q is involved in another instance, it answers no (both rollbacks)",
                TermsTest::rollbackAsksOneInRollback);
        test("if q is involved in another instance, it answers no (though it is down)",
                TermsTest::involvedElsewhereComesBeforeDown);
        test("if q is involved in another instance, it answers no (though not concerned)",
                TermsTest::involvedElsewhereComesBeforeNotConcerned);
        test("if q is down, it answers no for a checkpoint", TermsTest::downAndCheckpoint);
        test("if q is down, it answers no for a checkpoint (though not concerned)",
                TermsTest::downComesBeforeNotConcerned);
        test("if q is down, it answers .. yes for a rollback", TermsTest::downAndRollback);
        test("for a checkpoint, when x is not greater than OLD SENT (q, r): equal",
                TermsTest::checkpointLabelIsEqual);
        test("for a checkpoint, when x is not greater than OLD SENT (q, r): less",
                TermsTest::checkpointLabelIsLess);
        test("for a checkpoint, when x is not greater than OLD SENT (q, r): greater by 1",
                TermsTest::checkpointLabelIsGreater);
        test("OLD SENT (q, r), that to r alone", TermsTest::checkpointLooksAtTheAskerAlone);
        test("for a rollback, when RECEIVED (q, r) is not greater than x: equal",
                TermsTest::rollbackLabelIsEqual);
        test("for a rollback, when RECEIVED (q, r) is not greater than x: less",
                TermsTest::rollbackLabelIsLess);
        test("for a rollback, when RECEIVED (q, r) is not greater than x: greater by 1",
                TermsTest::rollbackLabelIsGreater);
        test("RECEIVED (q, r), that from r alone", TermsTest::rollbackLooksAtTheAskerAlone);
        test("Otherwise q joins i, with r as its PARENT. (Answers are sent to r.)",
                TermsTest::answersGoToTheAsker);
    }

    private static void answersAndDecisions() {
        test("When a process has the answers of all its cohort", TermsTest::waitsForAllAnswers);
        test("(at once, when that has none): a root", TermsTest::rootWithoutCohort);
        test("(at once, when that has none): one that joined", TermsTest::joinerWithoutCohort);
        test("yes if all of them were yes", TermsTest::allYes);
        test("else no: the first", TermsTest::firstAnswerIsNo);
        test("else no: the last", TermsTest::lastAnswerIsNo);
        test("else no: all", TermsTest::allAnswersAreNo);
        test("it sends the answer to its parent: .. else no", TermsTest::noGoesByWayOfTheParent);
        test("a no of an earlier instance counts no more", TermsTest::earlierNoIsForgotten);
        test("The root decides instead", TermsTest::onlyTheRootDecides);
        test("it FOLLOWS the decision", TermsTest::rootFollowsAtOnce);
        test("When a DECISION on instance i is delivered to a process that is involved in i",
                TermsTest::involvedFollows);
        test("another one does nothing (in no instance)", TermsTest::oneInNoneDoesNothing);
        test("another one does nothing (in another instance)",
                TermsTest::oneInAnotherDoesNothing);
        test("another one does nothing (down)", TermsTest::oneThatIsDownDoesNothing);
        test("the process sends the same decision to its cohort: commit",
                TermsTest::commitGoesOn);
        test("the process sends the same decision to its cohort: abort", TermsTest::abortGoesOn);
        test("it is involved no more", TermsTest::involvedNoMore);
        test("its tentative checkpoint becomes its permanent one (commit)",
                TermsTest::tentativeBecomesPermanent);
        test("or is dropped (abort)", TermsTest::tentativeIsDropped);
        test("for a rollback and commit it ROLLS BACK", TermsTest::commitRollsBack);
        test("for a rollback and abort it stays as it is", TermsTest::abortedRollback);
    }

    private static void rollingBack() {
        test("value, SENT and RECEIVED become those of the permanent checkpoint",
                TermsTest::rollsBackToThePermanent);
        test("from its channels to others all messages are taken that have a label greater than"
                + " SENT then", TermsTest::takesGreaterLabels);
        test("all messages are taken (of a full channel)", TermsTest::takesAllOfAFullChannel);
        test("all messages are taken (none has a greater label)", TermsTest::takesNone);
        test("from its channels to others (not those to it)", TermsTest::channelsToItStay);
        test("and it is up", TermsTest::upAfterRollingBack);
    }

    // Processes, values, channels, labels.

    private static void numbersOfProcesses() {
        for (int n = 2; n <= 5; n++) {
            TwoPhaseCuts x = new TwoPhaseCuts(n);
            for (int p = 0; p < n; p++) {
                due("work(" + p + ", 1) of " + n, x.work(p, 1), 0);
                due("value(" + p + ") of " + n, x.value(p), 1);
            }
            for (int p : noProcesses(n)) {
                due("work(" + p + ", 1) of " + n, x.work(p, 1), BAD);
                due("instance(" + p + ") of " + n, x.instance(p), BAD);
            }
        }
    }

    private static void valueAtFirst() {
        TwoPhaseCuts x = new TwoPhaseCuts(5);
        for (int p = 0; p < 5; p++) {
            due("value(" + p + ")", x.value(p), 0);
        }
        x.work(4, LEAST);
        due("value(4)", x.value(4), LEAST);
        x.work(3, GREATEST);
        due("value(3)", x.value(3), GREATEST);
    }

    private static void workWraps() {
        TwoPhaseCuts x = new TwoPhaseCuts(3);
        x.work(0, GREATEST);
        x.work(0, 1);
        due("value(0), 31 times the greatest, and 1", x.value(0), 2147483618);
        x.work(1, LEAST);
        x.work(1, -1);
        due("value(1), 31 times the least, less 1", x.value(1), GREATEST);
        x.work(2, 1);
        x.work(2, GREATEST);
        due("value(2), 31 and the greatest", x.value(2), -2147483618);
    }

    private static void receiveWraps() {
        TwoPhaseCuts x = new TwoPhaseCuts(3);
        x.work(1, GREATEST);
        pass(x, 0, 1);
        due("value(1), 17 times the greatest, and 1", x.value(1), 2147483632);
        x.work(2, GREATEST);
        pass(x, 2, 0);
        due("value(0), the greatest and 1", x.value(0), LEAST);
        TwoPhaseCuts y = new TwoPhaseCuts(2);
        y.work(0, LEAST);
        y.work(1, LEAST);
        pass(y, 0, 1);
        due("value(1), 18 times the least, and 1", y.value(1), 1);
    }

    private static void upAtFirst() {
        for (int n = 2; n <= 5; n++) {
            TwoPhaseCuts x = new TwoPhaseCuts(n);
            for (int p = 0; p < n; p++) {
                due("down(" + p + ") of " + n, x.down(p), false);
                x.crash(p);
                due("down(" + p + ") of " + n, x.down(p), true);
            }
        }
    }

    private static void aChannelForAnyTwo() {
        TwoPhaseCuts x = new TwoPhaseCuts(5);
        int sent = 0;
        for (int p = 0; p < 5; p++) {
            for (int q = 0; q < 5; q++) {
                due("send(" + p + ", " + q + ")", x.send(p, q), p == q ? BAD : 1);
                sent += p == q ? 0 : 1;
                due("all that wait", allThatWait(x, 5), sent);
            }
        }
        for (int p = 0; p < 5; p++) {
            for (int q = 0; q < 5; q++) {
                due("waiting(" + p + ", " + q + ")", x.waiting(p, q), p == q ? BAD : 1);
            }
        }
    }

    private static int allThatWait(TwoPhaseCuts x, int n) {
        int sum = 0;
        for (int p = 0; p < n; p++) {
            for (int q = 0; q < n; q++) {
                sum += p == q ? 0 : x.waiting(p, q);
            }
        }
        return sum;
    }

    private static void channelIsALine() {
        TwoPhaseCuts x = new TwoPhaseCuts(2);
        sendMany(x, 0, 1, 4);
        due("receive(0, 1)", x.receive(0, 1), 1);
        due("lose(0, 1)", x.lose(0, 1), 2);
        sendMany(x, 0, 1, 2);
        for (int i = 3; i <= 6; i++) {
            due("receive(0, 1)", x.receive(0, 1), i);
        }
        due("receive(0, 1), none", x.receive(0, 1), NONE);
    }

    private static void atMostSix() {
        TwoPhaseCuts x = new TwoPhaseCuts(3);
        for (int i = 1; i <= 6; i++) {
            due("send(0, 1)", x.send(0, 1), i);
            due("waiting(0, 1)", x.waiting(0, 1), i);
        }
        due("send(0, 1), the seventh", x.send(0, 1), NONE);
        due("waiting(0, 1)", x.waiting(0, 1), 6);
        due("send(1, 0), the other way", x.send(1, 0), 1);
        due("send(0, 2), another channel", x.send(0, 2), 1);
        due("send(2, 1), another channel", x.send(2, 1), 1);
        x.receive(0, 1);
        due("send(0, 1), one was received", x.send(0, 1), 7);
        due("send(0, 1), full again", x.send(0, 1), NONE);
        x.lose(0, 1);
        due("send(0, 1), one was lost", x.send(0, 1), 8);
        due("send(0, 1), full again", x.send(0, 1), NONE);
        rollBackWhole(x, 0);
        due("waiting(0, 1), all were taken", x.waiting(0, 1), 0);
        due("send(0, 1)", x.send(0, 1), 1);
    }

    private static void messageHasValueAndLabel() {
        TwoPhaseCuts x = new TwoPhaseCuts(2);
        x.work(0, 5);
        x.send(0, 1);
        x.work(0, 0);
        x.send(0, 1);
        x.work(0, 1);
        due("receive(0, 1)", x.receive(0, 1), 1);
        due("value(1), by the value when 1 was sent", x.value(1), 6);
        due("receive(0, 1)", x.receive(0, 1), 2);
        due("value(1), by the value when 2 was sent", x.value(1), 17 * 6 + 155 + 1);
    }

    private static void labelsAtFirst() {
        TwoPhaseCuts x = new TwoPhaseCuts(5);
        for (int p = 0; p < 5; p++) {
            for (int q = 0; q < 5; q++) {
                for (int which = 0; which < 4 && p != q; which++) {
                    due("label(" + p + ", " + q + ", " + which + ")", x.label(p, q, which), 0);
                }
            }
        }
    }

    private static void labelsAreOfTwo() {
        TwoPhaseCuts x = new TwoPhaseCuts(3);
        pass(x, 0, 1);
        pass(x, 0, 1);
        pass(x, 0, 2);
        due("label(0, 1, 0)", x.label(0, 1, 0), 2);
        due("label(0, 2, 0)", x.label(0, 2, 0), 1);
        due("label(1, 0, 1)", x.label(1, 0, 1), 2);
        due("label(2, 0, 1)", x.label(2, 0, 1), 1);
        due("label(1, 0, 0)", x.label(1, 0, 0), 0);
        due("label(0, 1, 1)", x.label(0, 1, 1), 0);
        due("label(1, 2, 1)", x.label(1, 2, 1), 0);
        due("label(2, 1, 0)", x.label(2, 1, 0), 0);
    }

    // Checkpoints and instances.

    private static void checkpointIsACopy() {
        TwoPhaseCuts x = new TwoPhaseCuts(2);
        pass(x, 0, 1);
        x.work(1, 8);
        x.send(1, 0);
        x.checkpoint(1);
        settle(x);
        x.work(1, 9);
        x.send(1, 0);
        pass(x, 0, 1);
        due("kept(1)", x.kept(1), 31 + 8);
        due("label(1, 0, 2)", x.label(1, 0, 2), 1);
        due("label(1, 0, 3)", x.label(1, 0, 3), 1);
        rollBackWhole(x, 1);
        x.work(1, 2);
        x.send(1, 0);
        due("kept(1), a copy after rolling back too", x.kept(1), 31 + 8);
        due("label(1, 0, 2), a copy after rolling back too", x.label(1, 0, 2), 1);
    }

    private static void checkpointIsOfAllOthers() {
        TwoPhaseCuts x = new TwoPhaseCuts(5);
        for (int q = 0; q < 5; q++) {
            for (int i = 0; i <= q && q != 2; i++) {
                x.send(2, q);
                pass(x, q, 2);
            }
        }
        x.checkpoint(2);
        settle(x);
        for (int q = 0; q < 5; q++) {
            due("label(2, " + q + ", 2)", x.label(2, q, 2), q == 2 ? BAD : q + 1);
            due("label(2, " + q + ", 3)", x.label(2, q, 3), q == 2 ? BAD : q + 1);
        }
    }

    private static void permanentAtFirst() {
        TwoPhaseCuts x = new TwoPhaseCuts(2);
        x.work(0, 7);
        x.send(0, 1);
        pass(x, 1, 0);
        due("kept(0)", x.kept(0), 0);
        rollBackWhole(x, 0);
        due("value(0)", x.value(0), 0);
        due("label(0, 1, 0)", x.label(0, 1, 0), 0);
        due("label(0, 1, 1)", x.label(0, 1, 1), 0);
    }

    private static void tentativeIsNotPermanent() {
        TwoPhaseCuts x = inCheckpoint();
        due("kept(0), it joined", x.kept(0), 0);
        due("kept(1), the root", x.kept(1), 0);
        due("times(0, 0)", x.times(0, 0), 0);
        due("times(1, 0)", x.times(1, 0), 0);
    }

    private static void oldLabels() {
        TwoPhaseCuts x = inCheckpoint();
        due("label(0, 1, 2), tentative", x.label(0, 1, 2), 0);
        due("label(1, 0, 3), tentative", x.label(1, 0, 3), 0);
        settle(x);
        due("label(0, 1, 2), permanent", x.label(0, 1, 2), 2);
        due("label(1, 0, 3), permanent", x.label(1, 0, 3), 1);
        due("label(1, 2, 2), permanent", x.label(1, 2, 2), 1);
        due("label(2, 1, 2), it was not asked", x.label(2, 1, 2), 0);
    }

    private static void numbersOfInstances() {
        TwoPhaseCuts x = new TwoPhaseCuts(3);
        due("checkpoint(2)", x.checkpoint(2), 1);
        due("restart(2), refused", x.restart(2), DOWN);
        due("checkpoint(3), refused", x.checkpoint(3), BAD);
        x.crash(0);
        due("restart(0), a rollback", x.restart(0), 2);
        due("checkpoint(0), refused", x.checkpoint(0), DOWN);
        x.crash(1);
        due("restart(1), a rollback", x.restart(1), 3);
        settle(x);
        due("decision(2)", x.decision(2), 2);
        due("restart(0), after an abort", x.restart(0), 4);
        due("checkpoint(2)", x.checkpoint(2), 5);
    }

    private static void involvedInOneAtATime() {
        TwoPhaseCuts x = inCheckpoint();
        due("checkpoint(0), it joined 1", x.checkpoint(0), BUSY);
        due("checkpoint(1), the root of 1", x.checkpoint(1), BUSY);
        x.crash(2);
        due("restart(2)", x.restart(2), 2);
        x.tick();
        due("instance(0), asked by 2", x.instance(0), 1);
        due("instance(1), decided", x.instance(1), 0);
        due("checkpoint(1), again", x.checkpoint(1), 3);
        due("checkpoint(0), still in 1", x.checkpoint(0), BUSY);
    }

    private static void inACheckpointItDoesNotSend() {
        TwoPhaseCuts x = inCheckpoint();
        due("send(1, 2), the root", x.send(1, 2), BUSY);
        due("send(0, 2), it joined", x.send(0, 2), BUSY);
        due("work(1, 1)", x.work(1, 1), 0);
        due("work(0, 1)", x.work(0, 1), 0);
        due("receive(2, 1)", x.receive(2, 1), 1);
        due("receive(2, 0)", x.receive(2, 0), 1);
        due("receive(0, 2), from it", x.receive(0, 2), 1);
        settle(x);
        due("send(1, 2)", x.send(1, 2), 2);
        due("send(0, 2)", x.send(0, 2), 2);
    }

    private static void inARollbackItDoesNothing() {
        TwoPhaseCuts x = inRollback();
        due("work(1, 1)", x.work(1, 1), BUSY);
        due("send(1, 2)", x.send(1, 2), BUSY);
        due("receive(2, 1)", x.receive(2, 1), BUSY);
        due("checkpoint(1)", x.checkpoint(1), BUSY);
        due("crash(1)", x.crash(1), BUSY);
        settle(x);
        due("work(1, 1)", x.work(1, 1), 0);
        due("send(1, 2)", x.send(1, 2), 1);
        due("receive(2, 1)", x.receive(2, 1), 1);
    }

    // Notes and joining.

    private static void notesAreNotLost() {
        TwoPhaseCuts x = new TwoPhaseCuts(3);
        pass(x, 0, 1);
        x.checkpoint(1);
        due("lose(1, 0), a note is no message", x.lose(1, 0), NONE);
        due("lose(0, 1)", x.lose(0, 1), NONE);
        due("notes()", x.notes(), 1);
        x.crash(0);
        due("notes(), one to a process that is down", x.notes(), 1);
        ticks(x, 1);
        due("notes(), its answer", x.notes(), 1);
        rollBackWhole(x, 2);
        due("decision(1)", x.decision(1), 2);
    }

    private static void allAreDelivered() {
        TwoPhaseCuts x = new TwoPhaseCuts(5);
        for (int p = 0; p < 5; p++) {
            x.crash(p);
            x.restart(p);
            due("notes()", x.notes(), 4 * (p + 1));
        }
        ticks(x, 20, 20, 20, 0);
        TwoPhaseCuts y = new TwoPhaseCuts(3);
        pass(y, 0, 1);
        y.checkpoint(1);
        y.tick();
        y.crash(2);
        y.restart(2);
        due("tick(), what a tick sent and what a call sent", y.tick(), 3);
    }

    private static void orderOfDelivery() {
        firstAskedJoins(0, 1);
        firstAskedJoins(1, 0);
    }

    /** Both roots ask 2 in one tick: the one that asked first has it. */
    private static void firstAskedJoins(int first, int second) {
        TwoPhaseCuts x = new TwoPhaseCuts(3);
        pass(x, 2, 0);
        pass(x, 2, 1);
        x.checkpoint(first);
        x.checkpoint(second);
        ticks(x, 2);
        due("instance(2), asked first by " + first, x.instance(2), 1);
        ticks(x, 2);
        due("decision(1)", x.decision(1), 1);
        due("decision(2)", x.decision(2), 2);
    }

    private static void orderAfterManyNotes() {
        TwoPhaseCuts x = new TwoPhaseCuts(3);
        int begun = 0;
        for (int round = 0; round < 20; round++) {
            int first = round % 2;
            int second = 1 - first;
            pass(x, 2, 0);
            pass(x, 2, 1);
            due("checkpoint(" + first + ")", x.checkpoint(first), begun + 1);
            due("checkpoint(" + second + ")", x.checkpoint(second), begun + 2);
            ticks(x, 2, 2, 2);
            due("decision, asked first", x.decision(begun + 1), 1);
            due("decision, asked second", x.decision(begun + 2), 2);
            due("checkpoint(" + second + "), again", x.checkpoint(second), begun + 3);
            ticks(x, 1, 1, 1, 0);
            due("decision, asked alone", x.decision(begun + 3), 1);
            begun += 3;
        }
    }

    private static void sentInATick() {
        TwoPhaseCuts x = new TwoPhaseCuts(4);
        pass(x, 3, 2);
        pass(x, 2, 1);
        pass(x, 1, 0);
        x.checkpoint(0);
        for (int joined = 1; joined <= 3; joined++) {
            ticks(x, 1);
            for (int p = 0; p < 4; p++) {
                due("instance(" + p + ")", x.instance(p), p <= joined ? 1 : 0);
            }
            due("notes()", x.notes(), 1);
        }
    }

    private static void joiningIsInvolving() {
        TwoPhaseCuts c = inCheckpoint();
        due("instance(0), in a checkpoint", c.instance(0), 1);
        TwoPhaseCuts r = inRollback();
        due("instance(1), in a rollback", r.instance(1), 1);
        due("kept(1), a rollback has no tentative checkpoint", r.kept(1), 0);
    }

    private static void tentativeOfTheJoining() {
        TwoPhaseCuts x = new TwoPhaseCuts(2);
        pass(x, 0, 1);
        x.work(1, 6);
        x.checkpoint(1);
        int rootThen = x.value(1);
        x.work(1, 7);
        x.work(0, 8);
        x.send(0, 1);
        x.tick();
        x.work(0, 9);
        x.receive(0, 1);
        settle(x);
        due("kept(1), when it began", x.kept(1), rootThen);
        due("label(1, 0, 3), when it began", x.label(1, 0, 3), 1);
        due("kept(0), when the request came", x.kept(0), 8);
        due("label(0, 1, 2), when the request came", x.label(0, 1, 2), 2);
    }

    /**
     * 4 asks 1 and 2, and both ask 0. As 1 was asked first, it is the parent of 0 and waits as
     * long as 2 waits for 3; were it the other way round, 1 would answer two ticks earlier.
     */
    private static void checkpointAsksByGrowingNumbers() {
        TwoPhaseCuts x = new TwoPhaseCuts(5);
        pass(x, 0, 1);
        pass(x, 0, 2);
        pass(x, 3, 2);
        pass(x, 3, 0);
        pass(x, 1, 3);
        pass(x, 1, 4);
        pass(x, 2, 4);
        x.checkpoint(4);
        ticks(x, 2, 3, 3, 2, 2);
        due("decision(1)", x.decision(1), 0);
        ticks(x, 2);
        due("decision(1)", x.decision(1), 1);
    }

    /**
     * 0 asks all; 1 and 2 join and ask all again. As 1 was asked first, it is the parent of 3
     * and waits as long as 2 waits for 4; were it the other way round, 1 would answer earlier.
     */
    private static void rollbackAsksByGrowingNumbers() {
        TwoPhaseCuts x = new TwoPhaseCuts(5);
        pass(x, 0, 1);
        pass(x, 0, 2);
        pass(x, 1, 3);
        pass(x, 2, 3);
        pass(x, 2, 4);
        x.crash(0);
        x.restart(0);
        ticks(x, 4, 10, 14, 8, 2);
        due("decision(1)", x.decision(1), 0);
        ticks(x, 2);
        due("decision(1)", x.decision(1), 1);
        ticks(x, 4, 16, 0);
    }

    private static void checkpointCohort() {
        TwoPhaseCuts x = new TwoPhaseCuts(5);
        pass(x, 1, 0);
        pass(x, 2, 0);
        x.send(3, 0);
        x.send(0, 4);
        x.checkpoint(0);
        due("notes(), to 1 and 2", x.notes(), 2);
        x.tick();
        due("instance(1)", x.instance(1), 1);
        due("instance(2)", x.instance(2), 1);
        settle(x);
        due("times(3, 0), 3 sent and 0 did not receive", x.times(3, 0), 0);
        due("times(4, 0), 0 sent", x.times(4, 0), 0);
        pass(x, 2, 0);
        x.checkpoint(0);
        due("notes(), from 1 it has what it had", x.notes(), 1);
        x.tick();
        due("instance(1)", x.instance(1), 0);
        due("instance(2)", x.instance(2), 2);
    }

    private static void noCohort() {
        TwoPhaseCuts x = new TwoPhaseCuts(3);
        pass(x, 0, 1);
        x.checkpoint(1);
        settle(x);
        x.send(1, 0);
        x.send(0, 1);
        x.lose(0, 1);
        x.work(1, 5);
        due("checkpoint(1), nothing received since", x.checkpoint(1), 2);
        due("notes()", x.notes(), 0);
        due("decision(2)", x.decision(2), 1);
    }

    private static void cohortOfTheJoining() {
        TwoPhaseCuts x = new TwoPhaseCuts(3);
        pass(x, 0, 1);
        x.send(2, 1);
        x.checkpoint(1);
        x.receive(2, 1);
        ticks(x, 1, 1);
        due("decision(1)", x.decision(1), 1);
        due("notes(), the decision for 0 alone", x.notes(), 1);
        ticks(x, 1);
        due("checkpoint(1)", x.checkpoint(1), 2);
        due("notes(), to 2 alone", x.notes(), 1);
        settle(x);
        due("times(0, 0)", x.times(0, 0), 1);
        due("times(2, 0)", x.times(2, 0), 1);
    }

    /** The label of the request is that of the joining, also when a later one is received. */
    private static void labelOfACheckpointRequest() {
        TwoPhaseCuts x = new TwoPhaseCuts(2);
        pass(x, 0, 1);
        x.checkpoint(0);
        x.send(0, 1);
        x.checkpoint(1);
        x.receive(0, 1);
        x.tick();
        due("instance(0), the label is 1, and 1 was kept", x.instance(0), 0);
        settle(x);
        due("decision(2)", x.decision(2), 1);
        x.checkpoint(1);
        x.tick();
        due("instance(0), the label is 2, and 1 was kept", x.instance(0), 3);
    }

    private static void rollbackCohort() {
        for (int n = 2; n <= 5; n++) {
            for (int root = 0; root < n; root++) {
                TwoPhaseCuts x = new TwoPhaseCuts(n);
                x.crash(root);
                x.restart(root);
                due("notes(), " + root + " of " + n, x.notes(), n - 1);
                ticks(x, n - 1, n - 1, n - 1, 0);
                due("decision(1)", x.decision(1), 1);
            }
        }
        TwoPhaseCuts x = inRollback();
        due("notes(), the answer of 2 and what 1, which joined, asks both", x.notes(), 3);
    }

    private static void labelOfARollbackRequest() {
        TwoPhaseCuts x = new TwoPhaseCuts(4);
        pass(x, 0, 1);
        pass(x, 0, 2);
        pass(x, 0, 2);
        x.checkpoint(0);
        pass(x, 0, 1);
        x.crash(0);
        x.restart(0);
        x.tick();
        due("instance(1), it has 2 and 1 was kept", x.instance(1), 2);
        due("instance(2), it has 2 and 2 were kept", x.instance(2), 0);
        due("instance(3), it has none", x.instance(3), 0);
    }

    private static void rootJoinsFirst() {
        TwoPhaseCuts x = new TwoPhaseCuts(3);
        pass(x, 0, 1);
        x.checkpoint(1);
        due("instance(1)", x.instance(1), 1);
        due("instance(0)", x.instance(0), 0);
        x.crash(2);
        x.restart(2);
        due("instance(2)", x.instance(2), 2);
        due("instance(0)", x.instance(0), 0);
    }

    // What is answered to a request.

    private static void involvedThereInCheckpoint() {
        TwoPhaseCuts x = new TwoPhaseCuts(2);
        pass(x, 0, 1);
        pass(x, 1, 0);
        x.checkpoint(0);
        ticks(x, 1, 1, 1);
        due("decision(1)", x.decision(1), 0);
        ticks(x, 1);
        due("decision(1)", x.decision(1), 1);
        ticks(x, 1, 1, 0);
        due("times(0, 0)", x.times(0, 0), 1);
        due("times(1, 0)", x.times(1, 0), 1);
    }

    private static void involvedThereInRollback() {
        TwoPhaseCuts x = new TwoPhaseCuts(2);
        pass(x, 0, 1);
        pass(x, 1, 0);
        x.crash(0);
        x.restart(0);
        ticks(x, 1, 1, 1);
        due("decision(1)", x.decision(1), 0);
        ticks(x, 1);
        due("decision(1)", x.decision(1), 1);
        ticks(x, 1, 1, 0);
        due("times(0, 1)", x.times(0, 1), 1);
        due("times(1, 1)", x.times(1, 1), 1);
    }

    /** 0 is asked by the root 2, and a tick later by 1, which the root asked too. */
    private static void involvedThereDoesNotJoinAgain() {
        TwoPhaseCuts x = new TwoPhaseCuts(4);
        pass(x, 0, 1);
        pass(x, 0, 2);
        pass(x, 1, 2);
        x.send(3, 0);
        x.work(0, 5);
        x.checkpoint(2);
        ticks(x, 2);
        due("instance(0)", x.instance(0), 1);
        x.work(0, 6);
        x.receive(3, 0);
        ticks(x, 2);
        due("notes(), the answer to 1", x.notes(), 1);
        ticks(x, 1, 1);
        due("decision(1)", x.decision(1), 1);
        settle(x);
        due("kept(0), when it joined", x.kept(0), 5);
        due("label(0, 3, 3), when it joined", x.label(0, 3, 3), 0);
        due("times(0, 0)", x.times(0, 0), 1);
        due("times(3, 0), it was not asked", x.times(3, 0), 0);
    }

    private static void checkpointAsksOneInCheckpoint() {
        TwoPhaseCuts x = new TwoPhaseCuts(3);
        pass(x, 0, 1);
        pass(x, 1, 2);
        x.checkpoint(1);
        x.checkpoint(2);
        ticks(x, 2, 2);
        due("decision(1)", x.decision(1), 1);
        due("decision(2)", x.decision(2), 2);
        settle(x);
        due("times(1, 0)", x.times(1, 0), 1);
        due("times(2, 0)", x.times(2, 0), 0);
    }

    private static void checkpointAsksOneInRollback() {
        TwoPhaseCuts x = inRollback();
        x.checkpoint(2);
        due("decision(2), nothing received", x.decision(2), 1);
        TwoPhaseCuts y = new TwoPhaseCuts(3);
        pass(y, 0, 1);
        pass(y, 1, 2);
        y.crash(0);
        y.restart(0);
        y.checkpoint(2);
        y.tick();
        due("instance(1)", y.instance(1), 1);
        due("instance(2)", y.instance(2), 2);
        y.tick();
        due("decision(2)", y.decision(2), 2);
        due("kept(2)", y.kept(2), 0);
    }

    private static void rollbackAsksOneInCheckpoint() {
        TwoPhaseCuts x = inCheckpoint();
        x.crash(2);
        x.restart(2);
        ticks(x, 3, 3);
        due("decision(1)", x.decision(1), 1);
        due("decision(2), 0 and 1 were in 1", x.decision(2), 2);
        due("down(2)", x.down(2), true);
    }

    private static void rollbackAsksOneInRollback() {
        TwoPhaseCuts x = inRollback();
        emptyEveryChannel(x, 3);
        x.crash(2);
        x.restart(2);
        settle(x);
        due("decision(2), 1 had joined 1", x.decision(2), 2);
        due("down(2)", x.down(2), true);
    }

    /** Both are down and roots: each would say yes to the other if it were only down. */
    private static void involvedElsewhereComesBeforeDown() {
        TwoPhaseCuts x = new TwoPhaseCuts(2);
        x.crash(0);
        x.crash(1);
        x.restart(0);
        x.restart(1);
        ticks(x, 2, 2);
        due("decision(1)", x.decision(1), 2);
        due("decision(2)", x.decision(2), 2);
        due("down(0)", x.down(0), true);
        due("down(1)", x.down(1), true);
    }

    private static void involvedElsewhereComesBeforeNotConcerned() {
        TwoPhaseCuts x = new TwoPhaseCuts(3);
        pass(x, 1, 2);
        x.checkpoint(1);
        pass(x, 0, 1);
        x.checkpoint(1);
        x.checkpoint(2);
        settle(x);
        due("decision(2)", x.decision(2), 1);
        due("decision(3), all that 1 sent was kept", x.decision(3), 2);
        TwoPhaseCuts y = new TwoPhaseCuts(3);
        pass(y, 0, 1);
        y.checkpoint(1);
        y.crash(2);
        y.restart(2);
        settle(y);
        due("decision(1)", y.decision(1), 1);
        due("decision(2), 1 has nothing of 2", y.decision(2), 2);
    }

    private static void downAndCheckpoint() {
        TwoPhaseCuts x = new TwoPhaseCuts(2);
        pass(x, 0, 1);
        x.crash(0);
        x.checkpoint(1);
        ticks(x, 1);
        due("instance(0)", x.instance(0), 0);
        ticks(x, 1);
        due("decision(1)", x.decision(1), 2);
    }

    private static void downComesBeforeNotConcerned() {
        TwoPhaseCuts x = new TwoPhaseCuts(2);
        pass(x, 0, 1);
        x.checkpoint(0);
        x.crash(0);
        x.checkpoint(1);
        ticks(x, 1, 1);
        due("decision(2)", x.decision(2), 2);
    }

    private static void downAndRollback() {
        TwoPhaseCuts x = new TwoPhaseCuts(2);
        pass(x, 0, 1);
        x.crash(0);
        x.crash(1);
        x.restart(0);
        ticks(x, 1);
        due("instance(1), it does not join", x.instance(1), 0);
        ticks(x, 1);
        due("decision(1)", x.decision(1), 1);
        ticks(x, 1, 0);
        due("value(1), as it was", x.value(1), 1);
        due("down(1)", x.down(1), true);
    }

    private static void checkpointLabelIsEqual() {
        TwoPhaseCuts x = new TwoPhaseCuts(2);
        pass(x, 0, 1);
        pass(x, 0, 1);
        x.checkpoint(0);
        x.checkpoint(1);
        ticks(x, 1);
        due("instance(0), 2 and 2", x.instance(0), 0);
        ticks(x, 1);
        due("decision(2)", x.decision(2), 1);
    }

    private static void checkpointLabelIsLess() {
        TwoPhaseCuts x = new TwoPhaseCuts(2);
        pass(x, 0, 1);
        x.send(0, 1);
        x.checkpoint(0);
        x.checkpoint(1);
        ticks(x, 1);
        due("instance(0), 1 and 2", x.instance(0), 0);
        ticks(x, 1);
        due("decision(2)", x.decision(2), 1);
    }

    private static void checkpointLabelIsGreater() {
        TwoPhaseCuts x = new TwoPhaseCuts(2);
        pass(x, 0, 1);
        x.checkpoint(0);
        pass(x, 0, 1);
        x.checkpoint(1);
        ticks(x, 1);
        due("instance(0), 2 and 1", x.instance(0), 2);
        settle(x);
        due("times(0, 0)", x.times(0, 0), 2);
    }

    private static void checkpointLooksAtTheAskerAlone() {
        TwoPhaseCuts x = new TwoPhaseCuts(3);
        sendMany(x, 0, 2, 3);
        pass(x, 1, 0);
        x.checkpoint(0);
        settle(x);
        pass(x, 0, 1);
        x.checkpoint(1);
        ticks(x, 1);
        due("instance(0), it kept 3 to 2 and none to 1", x.instance(0), 2);
    }

    private static void rollbackLabelIsEqual() {
        TwoPhaseCuts x = new TwoPhaseCuts(2);
        pass(x, 0, 1);
        x.checkpoint(0);
        x.crash(0);
        x.restart(0);
        ticks(x, 1);
        due("instance(1), 1 and 1", x.instance(1), 0);
        ticks(x, 1);
        due("decision(2)", x.decision(2), 1);
        due("value(1), as it was", x.value(1), 1);
    }

    private static void rollbackLabelIsLess() {
        TwoPhaseCuts x = new TwoPhaseCuts(2);
        pass(x, 0, 1);
        x.send(0, 1);
        x.checkpoint(0);
        x.crash(0);
        x.restart(0);
        ticks(x, 1);
        due("instance(1), 1 and 2", x.instance(1), 0);
        ticks(x, 1);
        due("decision(2)", x.decision(2), 1);
    }

    private static void rollbackLabelIsGreater() {
        TwoPhaseCuts x = new TwoPhaseCuts(2);
        pass(x, 0, 1);
        x.checkpoint(0);
        x.checkpoint(1);
        settle(x);
        pass(x, 0, 1);
        x.crash(0);
        x.restart(0);
        ticks(x, 1);
        due("instance(1), 2 and 1", x.instance(1), 3);
        settle(x);
        due("times(1, 1)", x.times(1, 1), 1);
        due("value(1)", x.value(1), 1);
    }

    private static void rollbackLooksAtTheAskerAlone() {
        TwoPhaseCuts x = new TwoPhaseCuts(3);
        pass(x, 2, 1);
        pass(x, 2, 1);
        x.send(1, 0);
        x.crash(0);
        x.restart(0);
        ticks(x, 2);
        due("instance(1), it has 2 of 2 and none of 0", x.instance(1), 0);
        ticks(x, 2);
        due("decision(1)", x.decision(1), 1);
        due("value(1), as it was", x.value(1), 18);
    }

    /** 0 answers 1, which asked it, and 1 answers 2. */
    private static void answersGoToTheAsker() {
        TwoPhaseCuts x = new TwoPhaseCuts(3);
        pass(x, 0, 1);
        pass(x, 1, 2);
        x.checkpoint(2);
        ticks(x, 1, 1, 1);
        due("decision(1), 1 has its answer", x.decision(1), 0);
        ticks(x, 1);
        due("decision(1), 2 has its answer", x.decision(1), 1);
        ticks(x, 1);
        due("instance(1)", x.instance(1), 0);
        due("instance(0)", x.instance(0), 1);
        ticks(x, 1);
        due("instance(0)", x.instance(0), 0);
        ticks(x, 0);
    }

    // Answers and decisions.

    private static void waitsForAllAnswers() {
        TwoPhaseCuts x = new TwoPhaseCuts(4);
        pass(x, 0, 1);
        pass(x, 1, 3);
        pass(x, 2, 3);
        x.checkpoint(3);
        ticks(x, 2, 2);
        due("decision(1), the answer of 2 is there", x.decision(1), 0);
        due("instance(3)", x.instance(3), 1);
        ticks(x, 1);
        due("decision(1)", x.decision(1), 0);
        ticks(x, 1);
        due("decision(1), that of 1 too", x.decision(1), 1);
    }

    private static void rootWithoutCohort() {
        TwoPhaseCuts x = new TwoPhaseCuts(2);
        x.work(0, 8);
        due("checkpoint(0)", x.checkpoint(0), 1);
        due("decision(1)", x.decision(1), 1);
        due("instance(0)", x.instance(0), 0);
        due("kept(0)", x.kept(0), 8);
        due("times(0, 0)", x.times(0, 0), 1);
        due("notes()", x.notes(), 0);
        due("send(0, 1)", x.send(0, 1), 1);
    }

    private static void joinerWithoutCohort() {
        TwoPhaseCuts x = new TwoPhaseCuts(2);
        pass(x, 0, 1);
        x.checkpoint(1);
        ticks(x, 1);
        due("instance(0), it waits for the decision", x.instance(0), 1);
        due("notes(), its answer", x.notes(), 1);
        ticks(x, 1);
        due("decision(1)", x.decision(1), 1);
    }

    /** 3 has messages of 0, 1 and 2; those given are down and thus say no. */
    private static TwoPhaseCuts threeAsked(int... thatSayNo) {
        TwoPhaseCuts x = new TwoPhaseCuts(4);
        for (int p = 0; p < 3; p++) {
            pass(x, p, 3);
        }
        for (int p : thatSayNo) {
            x.crash(p);
        }
        x.checkpoint(3);
        ticks(x, 3, 3);
        due("instance(3)", x.instance(3), 0);
        ticks(x, 3, 0);
        return x;
    }

    private static void dueOfThreeAsked(TwoPhaseCuts x, int outcome) {
        due("decision(1)", x.decision(1), outcome);
        for (int p = 0; p < 4; p++) {
            due("instance(" + p + ")", x.instance(p), 0);
            due("times(" + p + ", 0)", x.times(p, 0), outcome == 1 ? 1 : 0);
        }
    }

    private static void allYes() {
        dueOfThreeAsked(threeAsked(), 1);
    }

    private static void firstAnswerIsNo() {
        dueOfThreeAsked(threeAsked(0), 2);
    }

    private static void lastAnswerIsNo() {
        dueOfThreeAsked(threeAsked(2), 2);
        dueOfThreeAsked(threeAsked(1), 2);
    }

    private static void allAnswersAreNo() {
        dueOfThreeAsked(threeAsked(0, 1, 2), 2);
    }

    private static void noGoesByWayOfTheParent() {
        TwoPhaseCuts x = new TwoPhaseCuts(4);
        pass(x, 0, 1);
        pass(x, 2, 1);
        pass(x, 1, 3);
        x.crash(0);
        x.checkpoint(3);
        ticks(x, 1, 2, 2);
        due("decision(1)", x.decision(1), 0);
        ticks(x, 1);
        due("decision(1)", x.decision(1), 2);
        settle(x);
        due("times(2, 0), it had said yes", x.times(2, 0), 0);
        due("instance(2)", x.instance(2), 0);
    }

    private static void earlierNoIsForgotten() {
        TwoPhaseCuts x = threeAsked(1);
        rollBackWhole(x, 1);
        due("decision(2)", x.decision(2), 1);
        due("value(3), it rolled back with 1", x.value(3), 0);
        pass(x, 0, 3);
        due("checkpoint(3)", x.checkpoint(3), 3);
        settle(x);
        due("decision(3)", x.decision(3), 1);
        due("times(3, 0)", x.times(3, 0), 1);
    }

    private static void onlyTheRootDecides() {
        TwoPhaseCuts x = new TwoPhaseCuts(3);
        pass(x, 0, 1);
        pass(x, 1, 2);
        x.checkpoint(2);
        for (int i = 0; i < 3; i++) {
            ticks(x, 1);
            due("decision(1)", x.decision(1), 0);
            due("times(0, 0)", x.times(0, 0), 0);
            due("times(1, 0)", x.times(1, 0), 0);
        }
        ticks(x, 1);
        due("decision(1)", x.decision(1), 1);
        due("instance(1), the decision is under way", x.instance(1), 1);
        due("times(1, 0)", x.times(1, 0), 0);
    }

    private static void rootFollowsAtOnce() {
        TwoPhaseCuts x = inCheckpoint();
        int joined = x.value(1);
        x.work(1, 1);
        ticks(x, 1);
        due("decision(1)", x.decision(1), 1);
        due("instance(1)", x.instance(1), 0);
        due("kept(1)", x.kept(1), joined);
        due("times(1, 0)", x.times(1, 0), 1);
    }

    private static void involvedFollows() {
        TwoPhaseCuts x = inCheckpoint();
        ticks(x, 1);
        due("instance(0), before the decision comes", x.instance(0), 1);
        ticks(x, 1);
        due("instance(0)", x.instance(0), 0);
        due("times(0, 0)", x.times(0, 0), 1);
        due("kept(0)", x.kept(0), 3);
    }

    private static void oneInNoneDoesNothing() {
        TwoPhaseCuts x = new TwoPhaseCuts(2);
        x.work(0, 5);
        pass(x, 0, 1);
        x.checkpoint(0);
        x.work(0, 6);
        x.checkpoint(1);
        ticks(x, 1, 1);
        String before = stateOf(x, 2);
        due("notes()", x.notes(), 1);
        ticks(x, 1);
        due("notes()", x.notes(), 0);
        due("the same but for the note",
                stateOf(x, 2).equals(before.substring(0, before.length() - 1) + "0"), true);
        due("kept(0)", x.kept(0), 5);
    }

    private static void oneInAnotherDoesNothing() {
        TwoPhaseCuts x = new TwoPhaseCuts(3);
        pass(x, 0, 1);
        x.checkpoint(0);
        x.checkpoint(1);
        ticks(x, 1, 1);
        due("decision(2)", x.decision(2), 1);
        pass(x, 2, 0);
        due("checkpoint(0)", x.checkpoint(0), 3);
        due("tick(), the decision on 2 and a request of 3", x.tick(), 2);
        due("instance(0)", x.instance(0), 3);
        due("decision(3)", x.decision(3), 0);
        due("kept(0)", x.kept(0), 0);
        due("times(0, 0)", x.times(0, 0), 1);
        settle(x);
        due("decision(3)", x.decision(3), 1);
        due("times(0, 0)", x.times(0, 0), 2);
    }

    private static void oneThatIsDownDoesNothing() {
        TwoPhaseCuts x = new TwoPhaseCuts(3);
        x.work(1, 4);
        x.crash(1);
        rollBackWhole(x, 0);
        due("decision(1)", x.decision(1), 1);
        due("down(1)", x.down(1), true);
        due("value(1)", x.value(1), 4);
        due("times(1, 1)", x.times(1, 1), 0);
    }

    private static void commitGoesOn() {
        TwoPhaseCuts x = new TwoPhaseCuts(4);
        pass(x, 0, 1);
        pass(x, 1, 2);
        pass(x, 2, 3);
        x.checkpoint(3);
        ticks(x, 1, 1, 1, 1, 1, 1);
        due("decision(1)", x.decision(1), 1);
        for (int p = 2; p >= 0; p--) {
            due("instance(" + p + ")", x.instance(p), 1);
            ticks(x, 1);
            due("instance(" + p + ")", x.instance(p), 0);
            due("times(" + p + ", 0)", x.times(p, 0), 1);
        }
        due("notes()", x.notes(), 0);
    }

    private static void abortGoesOn() {
        TwoPhaseCuts x = new TwoPhaseCuts(4);
        pass(x, 0, 1);
        pass(x, 1, 2);
        pass(x, 2, 3);
        x.crash(0);
        x.checkpoint(3);
        ticks(x, 1, 1, 1, 1, 1, 1);
        due("decision(1)", x.decision(1), 2);
        for (int p = 2; p >= 1; p--) {
            due("instance(" + p + ")", x.instance(p), 1);
            ticks(x, 1);
            due("instance(" + p + ")", x.instance(p), 0);
            due("times(" + p + ", 0)", x.times(p, 0), 0);
        }
        due("tick(), the abort for 0, which said no", x.tick(), 1);
        due("notes()", x.notes(), 0);
    }

    private static void involvedNoMore() {
        TwoPhaseCuts c = inCheckpoint();
        settle(c);
        TwoPhaseCuts r = inRollback();
        settle(r);
        TwoPhaseCuts a = threeAsked(0);
        for (int p = 0; p < 3; p++) {
            due("instance(" + p + "), after a checkpoint", c.instance(p), 0);
            due("crash(" + p + "), after a checkpoint", c.crash(p), 0);
            due("instance(" + p + "), after a rollback", r.instance(p), 0);
            due("crash(" + p + "), after a rollback", r.crash(p), 0);
            due("instance(" + p + "), after an abort", a.instance(p), 0);
            due("crash(" + p + "), after an abort", a.crash(p), p == 0 ? DOWN : 0);
        }
    }

    private static void tentativeBecomesPermanent() {
        TwoPhaseCuts x = inCheckpoint();
        int rootThen = x.value(1);
        int joinerThen = x.value(0);
        x.work(1, 50);
        x.work(0, 60);
        x.receive(2, 1);
        x.receive(2, 0);
        settle(x);
        due("kept(1)", x.kept(1), rootThen);
        due("kept(0)", x.kept(0), joinerThen);
        due("label(1, 2, 3)", x.label(1, 2, 3), 0);
        due("label(1, 2, 1)", x.label(1, 2, 1), 1);
        due("label(0, 2, 3)", x.label(0, 2, 3), 0);
        due("value(0), not the checkpoint's", x.value(0), (31 * 3 + 60) * 17 + 5 + 1);
    }

    private static void tentativeIsDropped() {
        TwoPhaseCuts x = new TwoPhaseCuts(3);
        x.work(1, 2);
        x.checkpoint(1);
        pass(x, 0, 1);
        x.send(1, 2);
        x.crash(0);
        x.checkpoint(1);
        settle(x);
        due("decision(2)", x.decision(2), 2);
        due("kept(1)", x.kept(1), 2);
        due("label(1, 0, 3)", x.label(1, 0, 3), 0);
        due("label(1, 2, 2)", x.label(1, 2, 2), 0);
        due("value(1), as it is", x.value(1), 35);
        due("times(1, 0)", x.times(1, 0), 1);
        rollBackWhole(x, 1);
        due("value(1), that of the permanent one", x.value(1), 2);
        due("label(1, 2, 0), that of the permanent one", x.label(1, 2, 0), 0);
    }

    private static void commitRollsBack() {
        TwoPhaseCuts x = inRollback();
        settle(x);
        due("decision(1)", x.decision(1), 1);
        due("times(0, 1), the root", x.times(0, 1), 1);
        due("times(1, 1), it joined", x.times(1, 1), 1);
        due("times(2, 1), it did not", x.times(2, 1), 0);
        due("value(0)", x.value(0), 0);
        due("value(1)", x.value(1), 0);
        due("value(2)", x.value(2), 5);
    }

    /** 2 is in a checkpoint, so that the rollback of 0, which 1 joined, is aborted. */
    private static void abortedRollback() {
        TwoPhaseCuts x = new TwoPhaseCuts(4);
        x.work(0, 3);
        pass(x, 0, 1);
        sendMany(x, 0, 1, 2);
        sendMany(x, 1, 0, 3);
        pass(x, 3, 2);
        x.crash(0);
        x.restart(0);
        x.checkpoint(2);
        x.tick();
        due("instance(1)", x.instance(1), 1);
        settle(x);
        due("decision(1)", x.decision(1), 2);
        due("value(0)", x.value(0), 3);
        due("value(1)", x.value(1), 4);
        due("label(0, 1, 0)", x.label(0, 1, 0), 3);
        due("label(1, 0, 1)", x.label(1, 0, 1), 1);
        due("waiting(0, 1)", x.waiting(0, 1), 2);
        due("waiting(1, 0)", x.waiting(1, 0), 3);
        due("down(0)", x.down(0), true);
        due("down(1)", x.down(1), false);
        due("times(0, 1)", x.times(0, 1), 0);
        due("times(1, 1)", x.times(1, 1), 0);
        due("work(1, 1)", x.work(1, 1), 0);
    }

    // Rolling back.

    private static void rollsBackToThePermanent() {
        TwoPhaseCuts x = new TwoPhaseCuts(3);
        x.work(0, 7);
        x.send(0, 1);
        x.send(0, 2);
        pass(x, 1, 0);
        pass(x, 2, 0);
        x.checkpoint(0);
        settle(x);
        x.work(0, 9);
        x.send(0, 1);
        x.send(0, 2);
        pass(x, 1, 0);
        pass(x, 2, 0);
        rollBackWhole(x, 0);
        due("value(0)", x.value(0), (7 * 17 + 1) * 17 + 1);
        for (int q = 1; q < 3; q++) {
            for (int which = 0; which < 4; which++) {
                due("label(0, " + q + ", " + which + ")", x.label(0, q, which), 1);
            }
        }
        due("send(0, 1), labels go on from there", x.send(0, 1), 2);
    }

    private static void takesGreaterLabels() {
        TwoPhaseCuts x = new TwoPhaseCuts(3);
        sendMany(x, 0, 1, 3);
        x.send(0, 2);
        x.checkpoint(0);
        x.lose(0, 1);
        sendMany(x, 0, 1, 3);
        sendMany(x, 0, 2, 2);
        x.crash(0);
        x.restart(0);
        due("waiting(0, 1), before it rolls back", x.waiting(0, 1), 5);
        settle(x);
        due("waiting(0, 1), 2 and 3 stay", x.waiting(0, 1), 2);
        due("waiting(0, 2), 1 stays", x.waiting(0, 2), 1);
        due("receive(0, 1)", x.receive(0, 1), 2);
        due("receive(0, 1)", x.receive(0, 1), 3);
        due("receive(0, 1)", x.receive(0, 1), NONE);
        due("receive(0, 2)", x.receive(0, 2), 1);
    }

    private static void takesAllOfAFullChannel() {
        for (int p = 0; p < 5; p++) {
            TwoPhaseCuts x = new TwoPhaseCuts(5);
            for (int q = 0; q < 5; q++) {
                sendMany(x, p, q, 6);
            }
            rollBackWhole(x, p);
            for (int q = 0; q < 5; q++) {
                due("waiting(" + p + ", " + q + ")", x.waiting(p, q), p == q ? BAD : 0);
                due("send(" + p + ", " + q + ")", x.send(p, q), p == q ? BAD : 1);
            }
        }
    }

    private static void takesNone() {
        TwoPhaseCuts x = new TwoPhaseCuts(2);
        sendMany(x, 0, 1, 6);
        x.checkpoint(0);
        rollBackWhole(x, 0);
        due("waiting(0, 1)", x.waiting(0, 1), 6);
        due("send(0, 1)", x.send(0, 1), NONE);
        for (int i = 1; i <= 6; i++) {
            due("receive(0, 1)", x.receive(0, 1), i);
        }
    }

    private static void channelsToItStay() {
        TwoPhaseCuts x = new TwoPhaseCuts(3);
        x.work(1, 9);
        sendMany(x, 1, 0, 3);
        sendMany(x, 1, 2, 2);
        sendMany(x, 0, 2, 1);
        rollBackWhole(x, 0);
        due("waiting(1, 0)", x.waiting(1, 0), 3);
        due("waiting(1, 2)", x.waiting(1, 2), 2);
        due("waiting(0, 2)", x.waiting(0, 2), 0);
        due("receive(1, 0)", x.receive(1, 0), 1);
        due("value(0)", x.value(0), 10);
    }

    private static void upAfterRollingBack() {
        TwoPhaseCuts x = inRollback();
        due("down(0), before the decision", x.down(0), true);
        settle(x);
        due("down(0)", x.down(0), false);
        due("down(1)", x.down(1), false);
        due("work(0, 1)", x.work(0, 1), 0);
        due("crash(0)", x.crash(0), 0);
    }
}
