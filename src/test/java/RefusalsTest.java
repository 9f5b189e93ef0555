import java.util.ArrayList;
import java.util.List;
import java.util.function.Supplier;
import java.util.function.ToIntFunction;

/**
 * 'A refused call changes nothing.' Of two objects with the same past one gets a call that is
 * refused; from then on both must show the same, whatever they are asked to do. Calls that only
 * look must change nothing either.
 */
public final class RefusalsTest extends Checks {
    private static final int N = 3;
    private static final int REFUSALS = 4;

    private record Call(String name, ToIntFunction<TwoPhaseCuts> made) { }

    private record Past(String name, Supplier<TwoPhaseCuts> made) { }

    private static final int[] refusedWith = new int[REFUSALS];

    public static void main(String[] args) {
        for (Past past : pasts()) {
            test("A refused call changes nothing. (" + past.name() + ")",
                    () -> refusedCallsChangeNothing(past));
            test("A look changes nothing. (" + past.name() + ")",
                    () -> looksChangeNothing(past));
        }
        test("each refusal was met", RefusalsTest::eachRefusalWasMet);
        finish();
    }

    private static List<Past> pasts() {
        List<Past> pasts = new ArrayList<>();
        pasts.add(new Past("new", () -> new TwoPhaseCuts(N)));
        pasts.add(new Past("full channels", RefusalsTest::fullChannels));
        pasts.add(new Past("one is down", RefusalsTest::oneIsDown));
        pasts.add(new Past("all are down", RefusalsTest::allAreDown));
        for (int ticks = 0; ticks <= 3; ticks++) {
            int after = ticks;
            pasts.add(new Past("a checkpoint, " + after + " ticks later",
                    () -> later(inCheckpoint(), after)));
            pasts.add(new Past("a checkpoint, work and receipts, " + after + " ticks later",
                    () -> later(changedSinceItsCheckpoint(), after)));
            pasts.add(new Past("a rollback, " + after + " ticks later",
                    () -> later(inRollback(), after)));
            pasts.add(new Past("a checkpoint and a rollback, " + after + " ticks later",
                    () -> later(checkpointAndRollback(), after)));
        }
        return pasts;
    }

    private static TwoPhaseCuts fullChannels() {
        TwoPhaseCuts x = new TwoPhaseCuts(N);
        for (int i = 1; i <= 6; i++) {
            x.work(0, i);
            x.work(1, -i);
            x.send(0, 1);
            x.send(1, 0);
            x.send(1, 2);
        }
        return x;
    }

    private static TwoPhaseCuts oneIsDown() {
        TwoPhaseCuts x = fullChannels();
        x.receive(0, 1);
        x.receive(1, 0);
        x.checkpoint(2);
        x.crash(0);
        return x;
    }

    private static TwoPhaseCuts allAreDown() {
        TwoPhaseCuts x = fullChannels();
        x.receive(1, 2);
        for (int p = 0; p < N; p++) {
            x.crash(p);
        }
        return x;
    }

    /** The tentative checkpoints are no longer copies of what the processes are. */
    private static TwoPhaseCuts changedSinceItsCheckpoint() {
        TwoPhaseCuts x = inCheckpoint();
        x.work(0, 8);
        x.work(1, 9);
        x.receive(2, 0);
        x.receive(2, 1);
        return x;
    }

    private static TwoPhaseCuts checkpointAndRollback() {
        TwoPhaseCuts x = inCheckpoint();
        x.crash(2);
        x.restart(2);
        return x;
    }

    private static TwoPhaseCuts later(TwoPhaseCuts x, int ticks) {
        for (int i = 0; i < ticks; i++) {
            x.tick();
        }
        return x;
    }

    private static void refusedCallsChangeNothing(Past past) {
        String untouched = shownFromNowOn(past.made().get());
        for (Call call : callsThatAct()) {
            TwoPhaseCuts x = past.made().get();
            int answer = call.made().applyAsInt(x);
            if (answer < 0) {
                refusedWith[-answer - 1]++;
                due(call.name() + " changed nothing", shownFromNowOn(x).equals(untouched), true);
            } else if (!call.name().equals("tick()")) {
                due(call.name() + " changed something", shownFromNowOn(x).equals(untouched),
                        false);
            }
        }
    }

    private static void looksChangeNothing(Past past) {
        String untouched = shownFromNowOn(past.made().get());
        for (Call call : callsThatLook()) {
            TwoPhaseCuts x = past.made().get();
            call.made().applyAsInt(x);
            due(call.name() + " changed nothing", shownFromNowOn(x).equals(untouched), true);
        }
    }

    private static void eachRefusalWasMet() {
        for (int i = 0; i < REFUSALS; i++) {
            due("calls refused with " + (-i - 1) + " are many", refusedWith[i] >= 20, true);
        }
    }

    private static List<Call> callsThatAct() {
        List<Call> calls = new ArrayList<>();
        calls.add(new Call("tick()", TwoPhaseCuts::tick));
        for (int i = -1; i <= N; i++) {
            int p = i;
            calls.add(new Call("work(" + p + ", 9)", x -> x.work(p, 9)));
            calls.add(new Call("checkpoint(" + p + ")", x -> x.checkpoint(p)));
            calls.add(new Call("crash(" + p + ")", x -> x.crash(p)));
            calls.add(new Call("restart(" + p + ")", x -> x.restart(p)));
            for (int j = -1; j <= N; j++) {
                int q = j;
                String both = "(" + p + ", " + q + ")";
                calls.add(new Call("send" + both, x -> x.send(p, q)));
                calls.add(new Call("receive" + both, x -> x.receive(p, q)));
                calls.add(new Call("lose" + both, x -> x.lose(p, q)));
            }
        }
        return calls;
    }

    private static List<Call> callsThatLook() {
        List<Call> calls = new ArrayList<>();
        calls.add(new Call("notes()", TwoPhaseCuts::notes));
        for (int i = -1; i <= N; i++) {
            int p = i;
            calls.add(new Call("value(" + p + ")", x -> x.value(p)));
            calls.add(new Call("kept(" + p + ")", x -> x.kept(p)));
            calls.add(new Call("down(" + p + ")", x -> x.down(p) ? 1 : 0));
            calls.add(new Call("instance(" + p + ")", x -> x.instance(p)));
            calls.add(new Call("decision(" + p + ")", x -> x.decision(p)));
            calls.add(new Call("times(" + p + ", 0)", x -> x.times(p, 0)));
            calls.add(new Call("times(" + p + ", 1)", x -> x.times(p, 1)));
            for (int j = -1; j <= N; j++) {
                int q = j;
                calls.add(new Call("waiting(" + p + ", " + q + ")", x -> x.waiting(p, q)));
                calls.add(new Call("label(" + p + ", " + q + ", 0)", x -> x.label(p, q, 0)));
                calls.add(new Call("label(" + p + ", " + q + ", 3)", x -> x.label(p, q, 3)));
            }
        }
        return calls;
    }

    /** What can be seen now, of the notes under way, of the messages, and of a next instance. */
    private static String shownFromNowOn(TwoPhaseCuts x) {
        StringBuilder shown = new StringBuilder(stateOf(x, N));
        for (int i = 0; i < 10; i++) {
            shown.append(" tick ").append(x.tick());
            for (int p = 0; p < N; p++) {
                shown.append(' ').append(x.instance(p)).append(' ').append(x.kept(p));
            }
        }
        for (int p = 0; p < N; p++) {
            shown.append(" restart ").append(x.restart(p)).append(' ').append(later(x, 4).notes());
        }
        for (int p = 0; p < N; p++) {
            for (int q = 0; q < N; q++) {
                for (int left = x.waiting(p, q); left > 0; left--) {
                    shown.append(' ').append(x.receive(p, q)).append(' ').append(x.value(q));
                }
            }
        }
        for (int p = 0; p < N; p++) {
            shown.append(" checkpoint ").append(x.checkpoint(p)).append(' ');
            shown.append(later(x, 6).notes());
        }
        return shown.append(' ').append(stateOf(x, N)).toString();
    }
}
