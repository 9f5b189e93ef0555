import java.util.ArrayList;
import java.util.HashMap;
import java.util.List;
import java.util.Map;
import java.util.Random;
import java.util.TreeMap;
import java.util.TreeSet;

/**
 * Runs of 512 calls, drawn from fixed seeds, each answer held against a model that is written
 * after the document's words, with no bound on what it keeps.
 */
public final class ModelTest {
    private static final int RUNS = 3000;
    private static final int CALLS = 512;

    public static void main(String[] args) {
        Tally tally = new Tally();
        for (int seed = 0; seed < RUNS; seed++) {
            String fault = faultOf(seed, tally);
            if (fault != null) {
                System.out.println("seed " + seed + ": " + fault);
                System.exit(1);
            }
        }
        // Runs that never reach these would prove little.
        for (String reached : new String[] {"commit of a checkpoint", "abort of a checkpoint",
                "commit of a rollback", "abort of a rollback", "joined", "messages taken"}) {
            if (tally.of(reached) < 100) {
                System.out.println("too few: " + reached + ", " + tally.of(reached));
                System.exit(1);
            }
        }
        System.out.println(RUNS + " runs are as the model's: " + tally.counts);
    }

    private static String faultOf(int seed, Tally tally) {
        Random random = new Random(seed);
        int asked = random.nextInt(9) - 1;
        TwoPhaseCuts x = new TwoPhaseCuts(asked);
        Model m = new Model(asked, tally);
        // Some runs tick seldom, so that instances meet; some crash often.
        int tickWeight = 1 + random.nextInt(8);
        int faultWeight = random.nextInt(4);
        for (int call = 1; call <= CALLS; call++) {
            int[] c = drawCall(random, m.n, tickWeight, faultWeight);
            long got = answer(x, c);
            long due = m.answer(c);
            if (got != due) {
                return "call " + call + ", " + shown(c) + " answered " + got + ", due is " + due;
            }
        }
        return null;
    }

    private static final String[] NAMES = {"work", "send", "receive", "lose", "checkpoint",
        "crash", "restart", "tick", "value", "kept", "label", "waiting", "down", "instance",
        "decision", "notes", "times"};

    private static String shown(int[] c) {
        return NAMES[c[0]] + "(.. " + c[1] + ", " + c[2] + ", " + c[3] + ")";
    }

    private static int[] drawCall(Random random, int n, int tickWeight, int faultWeight) {
        int[] weights = {4, 10, 12, 1, 3, faultWeight, 2 * faultWeight, 2 * tickWeight,
            1, 1, 2, 1, 1, 1, 1, 1, 1};
        int sum = 0;
        for (int w : weights) {
            sum += w;
        }
        int left = random.nextInt(sum);
        int method = 0;
        while (left >= weights[method]) {
            left -= weights[method];
            method++;
        }
        int p = drawProcess(random, n);
        int q = drawProcess(random, n);
        int third = random.nextInt(6) - 1;
        switch (NAMES[method]) {
            case "work":
                q = random.nextInt(3) == 0 ? random.nextInt() : random.nextInt(10);
                break;
            case "decision":
                p = random.nextInt(40) - 1;
                break;
            case "times":
                q = random.nextInt(4) - 1;
                break;
            default:
                break;
        }
        return new int[] {method, p, q, third};
    }

    private static int drawProcess(Random random, int n) {
        return random.nextInt(40) == 0 ? random.nextInt(12) - 4 : random.nextInt(n);
    }

    private static long answer(TwoPhaseCuts x, int[] c) {
        switch (NAMES[c[0]]) {
            case "work": return x.work(c[1], c[2]);
            case "send": return x.send(c[1], c[2]);
            case "receive": return x.receive(c[1], c[2]);
            case "lose": return x.lose(c[1], c[2]);
            case "checkpoint": return x.checkpoint(c[1]);
            case "crash": return x.crash(c[1]);
            case "restart": return x.restart(c[1]);
            case "tick": return x.tick();
            case "value": return x.value(c[1]);
            case "kept": return x.kept(c[1]);
            case "label": return x.label(c[1], c[2], c[3]);
            case "waiting": return x.waiting(c[1], c[2]);
            case "down": return x.down(c[1]) ? 1 : 0;
            case "instance": return x.instance(c[1]);
            case "decision": return x.decision(c[1]);
            case "notes": return x.notes();
            default: return x.times(c[1], c[2]);
        }
    }

    private static final class Tally {
        final Map<String, Integer> counts = new TreeMap<>();

        void add(String what) {
            counts.merge(what, 1, Integer::sum);
        }

        int of(String what) {
            return counts.getOrDefault(what, 0);
        }
    }

    private record Pair(int a, int b) { }

    private record Message(int label, int value) { }

    private record Checkpoint(int value, Map<Integer, Integer> sent,
            Map<Integer, Integer> received) { }

    private record Note(String kind, int instance, int from, int to, int label, boolean good) { }

    /** A process's part in one instance. */
    private static final class Part {
        final int instance;
        final Integer parent;
        final TreeSet<Integer> cohort = new TreeSet<>();
        final Map<Integer, Boolean> answers = new HashMap<>();
        Checkpoint tentative;

        Part(int instance, Integer parent) {
            this.instance = instance;
            this.parent = parent;
        }
    }

    private static final class Model {
        final int n;
        final Tally tally;
        final Map<Integer, Integer> values = new HashMap<>();
        final Map<Pair, Integer> sent = new HashMap<>();
        final Map<Pair, Integer> received = new HashMap<>();
        final Map<Pair, List<Message>> channels = new HashMap<>();
        final Map<Integer, Checkpoint> permanent = new HashMap<>();
        final TreeSet<Integer> down = new TreeSet<>();
        final Map<Integer, Part> parts = new HashMap<>();
        final List<String> kinds = new ArrayList<>();
        final Map<Integer, Boolean> decided = new HashMap<>();
        final Map<Integer, Integer> committed = new HashMap<>();
        final Map<Integer, Integer> rolledBack = new HashMap<>();
        List<Note> under = new ArrayList<>();

        Model(int asked, Tally tally) {
            this.n = asked < 2 ? 2 : asked > 5 ? 5 : asked;
            this.tally = tally;
            for (int p = 0; p < n; p++) {
                permanent.put(p, copy(p));
            }
        }

        boolean is(int p) {
            return 0 <= p && p < n;
        }

        int value(int p) {
            return values.getOrDefault(p, 0);
        }

        int sent(int p, int q) {
            return sent.getOrDefault(new Pair(p, q), 0);
        }

        int received(int p, int q) {
            return received.getOrDefault(new Pair(p, q), 0);
        }

        int oldSent(int p, int q) {
            return permanent.get(p).sent().getOrDefault(q, 0);
        }

        int oldReceived(int p, int q) {
            return permanent.get(p).received().getOrDefault(q, 0);
        }

        List<Message> channel(int p, int q) {
            return channels.computeIfAbsent(new Pair(p, q), k -> new ArrayList<>());
        }

        boolean involved(int p) {
            return parts.containsKey(p);
        }

        boolean rollback(int instance) {
            return kinds.get(instance - 1).equals("rollback");
        }

        boolean inRollback(int p) {
            return involved(p) && rollback(parts.get(p).instance);
        }

        Checkpoint copy(int p) {
            Map<Integer, Integer> s = new HashMap<>();
            Map<Integer, Integer> r = new HashMap<>();
            for (int q = 0; q < n; q++) {
                s.put(q, sent(p, q));
                r.put(q, received(p, q));
            }
            return new Checkpoint(value(p), s, r);
        }

        long answer(int[] c) {
            int p = c[1];
            int q = c[2];
            switch (NAMES[c[0]]) {
                case "work": return work(p, q);
                case "send": return send(p, q);
                case "receive": return receive(p, q);
                case "lose": return !two(p, q) ? -1
                        : channel(p, q).isEmpty() ? -4 : channel(p, q).remove(0).label();
                case "checkpoint": return !is(p) ? -1 : down.contains(p) ? -2
                        : involved(p) ? -3 : begin(p, "checkpoint");
                case "crash": return crash(p);
                case "restart": return !is(p) ? -1 : !down.contains(p) ? -2
                        : involved(p) ? -3 : begin(p, "rollback");
                case "tick": return tick();
                case "value": return is(p) ? value(p) : 0;
                case "kept": return is(p) ? permanent.get(p).value() : 0;
                case "label": return label(p, q, c[3]);
                case "waiting": return two(p, q) ? channel(p, q).size() : -1;
                case "down": return down.contains(p) ? 1 : 0;
                case "instance": return !is(p) ? -1 : involved(p) ? parts.get(p).instance : 0;
                case "decision": return p < 1 || p > kinds.size() ? -1
                        : !decided.containsKey(p) ? 0 : decided.get(p) ? 1 : 2;
                case "notes": return under.size();
                default: return !is(p) || q < 0 || q > 1 ? -1
                        : (q == 0 ? committed : rolledBack).getOrDefault(p, 0);
            }
        }

        boolean two(int p, int q) {
            return is(p) && is(q) && p != q;
        }

        int label(int p, int q, int which) {
            if (!two(p, q) || which < 0 || which > 3) {
                return -1;
            }
            return which == 0 ? sent(p, q) : which == 1 ? received(p, q)
                    : which == 2 ? oldSent(p, q) : oldReceived(p, q);
        }

        int work(int p, int x) {
            if (!is(p)) {
                return -1;
            }
            if (down.contains(p)) {
                return -2;
            }
            if (inRollback(p)) {
                return -3;
            }
            values.put(p, 31 * value(p) + x);
            return 0;
        }

        int send(int p, int q) {
            if (!two(p, q)) {
                return -1;
            }
            if (down.contains(p)) {
                return -2;
            }
            if (involved(p)) {
                return -3;
            }
            if (channel(p, q).size() == 6) {
                return -4;
            }
            sent.put(new Pair(p, q), sent(p, q) + 1);
            channel(p, q).add(new Message(sent(p, q), value(p)));
            return sent(p, q);
        }

        int receive(int p, int q) {
            if (!two(p, q)) {
                return -1;
            }
            if (down.contains(q)) {
                return -2;
            }
            if (inRollback(q) || down.contains(p) || inRollback(p)) {
                return -3;
            }
            if (channel(p, q).isEmpty()) {
                return -4;
            }
            Message first = channel(p, q).remove(0);
            received.put(new Pair(q, p), first.label());
            values.put(q, 17 * value(q) + first.value() + 1);
            return first.label();
        }

        int crash(int p) {
            if (!is(p)) {
                return -1;
            }
            if (down.contains(p)) {
                return -2;
            }
            if (involved(p)) {
                return -3;
            }
            down.add(p);
            return 0;
        }

        int begin(int p, String kind) {
            kinds.add(kind);
            int number = kinds.size();
            join(p, number, null);
            return number;
        }

        void join(int p, int instance, Integer parent) {
            Part part = new Part(instance, parent);
            parts.put(p, part);
            if (parent != null) {
                tally.add("joined");
            }
            if (rollback(instance)) {
                for (int q = 0; q < n; q++) {
                    if (q != p) {
                        part.cohort.add(q);
                        note("request", instance, p, q, oldSent(p, q), true);
                    }
                }
            } else {
                part.tentative = copy(p);
                for (int q = 0; q < n; q++) {
                    if (q != p && received(p, q) > oldReceived(p, q)) {
                        part.cohort.add(q);
                        note("request", instance, p, q, received(p, q), true);
                    }
                }
            }
            if (part.cohort.isEmpty()) {
                conclude(p);
            }
        }

        void note(String kind, int instance, int from, int to, int label, boolean good) {
            under.add(new Note(kind, instance, from, to, label, good));
        }

        void conclude(int p) {
            Part part = parts.get(p);
            boolean good = !part.answers.containsValue(false);
            if (part.parent != null) {
                note("answer", part.instance, p, part.parent, 0, good);
            } else {
                decided.put(part.instance, good);
                tally.add((good ? "commit" : "abort") + " of a "
                        + kinds.get(part.instance - 1));
                follow(p, good);
            }
        }

        void follow(int p, boolean commit) {
            Part part = parts.get(p);
            for (int q : part.cohort) {
                note("decision", part.instance, p, q, 0, commit);
            }
            parts.remove(p);
            if (!commit) {
                return;
            }
            if (rollback(part.instance)) {
                rollBack(p);
            } else {
                permanent.put(p, part.tentative);
                committed.merge(p, 1, Integer::sum);
            }
        }

        void rollBack(int p) {
            values.put(p, permanent.get(p).value());
            for (int q = 0; q < n; q++) {
                sent.put(new Pair(p, q), oldSent(p, q));
                received.put(new Pair(p, q), oldReceived(p, q));
                int greatest = sent(p, q);
                if (channel(p, q).removeIf(m -> m.label() > greatest)) {
                    tally.add("messages taken");
                }
            }
            down.remove(p);
            rolledBack.merge(p, 1, Integer::sum);
        }

        int tick() {
            List<Note> delivered = under;
            under = new ArrayList<>();
            for (Note note : delivered) {
                deliver(note);
            }
            return delivered.size();
        }

        void deliver(Note note) {
            int q = note.to();
            Part part = parts.get(q);
            boolean there = part != null && part.instance == note.instance();
            if (note.kind().equals("request")) {
                hearRequest(note, q, there);
            } else if (note.kind().equals("answer")) {
                if (!there || part.answers.put(note.from(), note.good()) != null) {
                    throw new IllegalStateException("an answer that no one waits for");
                }
                if (part.answers.size() == part.cohort.size()) {
                    conclude(q);
                }
            } else if (there) {
                follow(q, note.good());
            }
        }

        void hearRequest(Note note, int q, boolean there) {
            int r = note.from();
            int i = note.instance();
            int x = note.label();
            if (there) {
                note("answer", i, q, r, 0, true);
            } else if (involved(q)) {
                note("answer", i, q, r, 0, false);
            } else if (down.contains(q)) {
                note("answer", i, q, r, 0, rollback(i));
            } else if (rollback(i) ? received(q, r) <= x : x <= oldSent(q, r)) {
                note("answer", i, q, r, 0, true);
            } else {
                join(q, i, r);
            }
        }
    }
}
