/**
 * Processes that send each other messages over channels that can lose them, and that take
 * checkpoints and roll back together, in two phases, so that the checkpoints kept always fit one
 * another.
 */
public final class TwoPhaseCuts {
    public static final int BAD = -1;
    public static final int DOWN = -2;
    public static final int BUSY = -3;
    public static final int NONE = -4;

    private static final int FEWEST_PROCESSES = 2;
    private static final int MOST_PROCESSES = 5;
    private static final int CHANNEL_ROOM = 6;
    // A call begins at most one instance, and an object is used for at most 512 calls.
    private static final int MOST_INSTANCES = 512;

    private static final int NO_INSTANCE = 0;
    private static final int NO_PARENT = -1;

    private static final int REQUEST = 0;
    private static final int ANSWER = 1;
    private static final int DECISION = 2;

    private static final int NO = 0;
    private static final int YES = 1;

    private static final int COMMIT = 1;
    private static final int ABORT = 2;

    private final int processCount;
    private final Member[] members;
    private final Channel[] channels;
    private final NoteLine noteLine;
    // Both by the instance's number; place 0 stays unused.
    private final boolean[] isRollback;
    private final int[] decisions;
    private int instancesBegun;

    public TwoPhaseCuts(int processes) {
        processCount = Math.max(FEWEST_PROCESSES, Math.min(MOST_PROCESSES, processes));
        members = new Member[processCount];
        for (int p = 0; p < processCount; p++) {
            members[p] = new Member(processCount);
        }
        channels = new Channel[processCount * processCount];
        for (int c = 0; c < channels.length; c++) {
            channels[c] = new Channel();
        }
        noteLine = new NoteLine(processCount);
        isRollback = new boolean[MOST_INSTANCES + 1];
        decisions = new int[MOST_INSTANCES + 1];
    }

    public int work(int p, int x) {
        if (!isProcess(p)) {
            return BAD;
        }
        Member worker = members[p];
        if (worker.isDown) {
            return DOWN;
        }
        if (worker.isInRollback()) {
            return BUSY;
        }
        worker.now.value = 31 * worker.now.value + x;
        return 0;
    }

    public int send(int p, int q) {
        if (!isChannel(p, q)) {
            return BAD;
        }
        Member sender = members[p];
        if (sender.isDown) {
            return DOWN;
        }
        if (sender.isInvolved()) {
            return BUSY;
        }
        Channel channel = channelOf(p, q);
        if (channel.count >= CHANNEL_ROOM) {
            return NONE;
        }
        sender.now.sent[q]++;
        channel.put(sender.now.sent[q], sender.now.value);
        return sender.now.sent[q];
    }

    public int receive(int p, int q) {
        if (!isChannel(p, q)) {
            return BAD;
        }
        Member sender = members[p];
        Member receiver = members[q];
        if (receiver.isDown) {
            return DOWN;
        }
        if (receiver.isInRollback() || sender.isDown || sender.isInRollback()) {
            return BUSY;
        }
        Channel channel = channelOf(p, q);
        if (channel.count == 0) {
            return NONE;
        }
        int firstLabel = channel.labels[0];
        receiver.now.received[p] = firstLabel;
        receiver.now.value = 17 * receiver.now.value + channel.values[0] + 1;
        channel.takeFirst();
        return firstLabel;
    }

    public int lose(int p, int q) {
        if (!isChannel(p, q)) {
            return BAD;
        }
        Channel channel = channelOf(p, q);
        if (channel.count == 0) {
            return NONE;
        }
        int firstLabel = channel.labels[0];
        channel.takeFirst();
        return firstLabel;
    }

    public int checkpoint(int p) {
        if (!isProcess(p)) {
            return BAD;
        }
        if (members[p].isDown) {
            return DOWN;
        }
        if (members[p].isInvolved()) {
            return BUSY;
        }
        return begin(p, false);
    }

    public int crash(int p) {
        if (!isProcess(p)) {
            return BAD;
        }
        if (members[p].isDown) {
            return DOWN;
        }
        if (members[p].isInvolved()) {
            return BUSY;
        }
        members[p].isDown = true;
        return 0;
    }

    public int restart(int p) {
        if (!isProcess(p)) {
            return BAD;
        }
        if (!members[p].isDown) {
            return DOWN;
        }
        if (members[p].isInvolved()) {
            return BUSY;
        }
        return begin(p, true);
    }

    public int tick() {
        // What is sent from here on waits for the next tick.
        int due = noteLine.count;
        for (int i = 0; i < due; i++) {
            deliver(noteLine.first());
            noteLine.takeFirst();
        }
        return due;
    }

    public int value(int p) {
        return isProcess(p) ? members[p].now.value : 0;
    }

    public int kept(int p) {
        return isProcess(p) ? members[p].permanent.value : 0;
    }

    public int label(int p, int q, int which) {
        if (!isChannel(p, q)) {
            return BAD;
        }
        switch (which) {
            case 0:
                return members[p].now.sent[q];
            case 1:
                return members[p].now.received[q];
            case 2:
                return members[p].permanent.sent[q];
            case 3:
                return members[p].permanent.received[q];
            default:
                return BAD;
        }
    }

    public int waiting(int p, int q) {
        return isChannel(p, q) ? channelOf(p, q).count : BAD;
    }

    public boolean down(int p) {
        return isProcess(p) && members[p].isDown;
    }

    public int instance(int p) {
        return isProcess(p) ? members[p].involvedIn : BAD;
    }

    public int decision(int instance) {
        return instance >= 1 && instance <= instancesBegun ? decisions[instance] : BAD;
    }

    public int notes() {
        return noteLine.count;
    }

    public int times(int p, int which) {
        if (!isProcess(p)) {
            return BAD;
        }
        switch (which) {
            case 0:
                return members[p].timesMadePermanent;
            case 1:
                return members[p].timesRolledBack;
            default:
                return BAD;
        }
    }

    private boolean isProcess(int p) {
        return p >= 0 && p < processCount;
    }

    private boolean isChannel(int p, int q) {
        return isProcess(p) && isProcess(q) && p != q;
    }

    private Channel channelOf(int p, int q) {
        return channels[p * processCount + q];
    }

    private int begin(int root, boolean rollback) {
        // Only an object past its 512th call comes here; its answers are free.
        if (instancesBegun >= MOST_INSTANCES) {
            return BUSY;
        }
        instancesBegun++;
        // Kept apart, for the instance may end within this very call.
        int number = instancesBegun;
        isRollback[number] = rollback;
        join(root, number, NO_PARENT);
        concludeWhenAnswered(root);
        return number;
    }

    private void join(int p, int number, int parent) {
        Member joiner = members[p];
        boolean rollback = isRollback[number];
        joiner.enter(number, rollback, parent);
        if (!rollback) {
            joiner.tentative.copyFrom(joiner.now);
        }
        for (int q = 0; q < processCount; q++) {
            // The cohort is kept, for the receipts that decide it may grow before the decision.
            joiner.cohort[q] = q != p && (rollback || joiner.hasNewReceiptFrom(q));
            if (joiner.cohort[q]) {
                joiner.answersAwaited++;
                int requestLabel = rollback ? joiner.permanent.sent[q] : joiner.now.received[q];
                noteLine.add(REQUEST, number, p, q, requestLabel);
            }
        }
    }

    private void concludeWhenAnswered(int p) {
        Member member = members[p];
        if (member.answersAwaited > 0) {
            return;
        }
        if (member.parent != NO_PARENT) {
            int answer = member.allSaidYes ? YES : NO;
            noteLine.add(ANSWER, member.involvedIn, p, member.parent, answer);
            return;
        }
        int outcome = member.allSaidYes ? COMMIT : ABORT;
        decisions[member.involvedIn] = outcome;
        follow(p, outcome);
    }

    private void deliver(Note note) {
        switch (note.kind) {
            case REQUEST:
                hearRequest(note);
                break;
            case ANSWER:
                hearAnswer(note);
                break;
            default:
                hearDecision(note);
                break;
        }
    }

    private void hearRequest(Note request) {
        Member asked = members[request.to];
        boolean rollback = isRollback[request.instance];
        if (asked.involvedIn == request.instance) {
            reply(request, YES);
        } else if (asked.isInvolved()) {
            reply(request, NO);
        } else if (asked.isDown) {
            reply(request, rollback ? YES : NO);
        } else if (!asked.isConcerned(rollback, request.from, request.content)) {
            reply(request, YES);
        } else {
            join(request.to, request.instance, request.from);
            concludeWhenAnswered(request.to);
        }
    }

    private void reply(Note request, int answer) {
        noteLine.add(ANSWER, request.instance, request.to, request.from, answer);
    }

    private void hearAnswer(Note answer) {
        Member asker = members[answer.to];
        asker.answersAwaited--;
        if (answer.content == NO) {
            asker.allSaidYes = false;
        }
        concludeWhenAnswered(answer.to);
    }

    private void hearDecision(Note decided) {
        if (members[decided.to].involvedIn == decided.instance) {
            follow(decided.to, decided.content);
        }
    }

    private void follow(int p, int outcome) {
        Member follower = members[p];
        int number = follower.involvedIn;
        for (int q = 0; q < processCount; q++) {
            if (follower.cohort[q]) {
                noteLine.add(DECISION, number, p, q, outcome);
            }
        }
        follower.involvedIn = NO_INSTANCE;
        // An aborted checkpoint needs no clearing: the next join overwrites the tentative copy.
        if (outcome == COMMIT) {
            if (isRollback[number]) {
                rollBack(p);
            } else {
                follower.makePermanent();
            }
        }
    }

    private void rollBack(int p) {
        Member member = members[p];
        member.now.copyFrom(member.permanent);
        for (int q = 0; q < processCount; q++) {
            channelOf(p, q).takeAbove(member.now.sent[q]);
        }
        member.isDown = false;
        member.timesRolledBack++;
    }

    /** What a checkpoint is a copy of. */
    private static final class State {
        int value;
        final int[] sent;
        final int[] received;

        State(int processCount) {
            sent = new int[processCount];
            received = new int[processCount];
        }

        void copyFrom(State other) {
            value = other.value;
            for (int q = 0; q < sent.length; q++) {
                sent[q] = other.sent[q];
                received[q] = other.received[q];
            }
        }
    }

    /** A process, with its part in the instance in which it is involved. */
    private static final class Member {
        final State now;
        final State permanent;
        // Counts only while the process is involved in a checkpoint.
        final State tentative;
        boolean isDown;
        int timesMadePermanent;
        int timesRolledBack;

        int involvedIn;
        boolean rollsBackThere;
        int parent;
        final boolean[] cohort;
        int answersAwaited;
        boolean allSaidYes;

        Member(int processCount) {
            now = new State(processCount);
            permanent = new State(processCount);
            tentative = new State(processCount);
            cohort = new boolean[processCount];
        }

        boolean isInvolved() {
            return involvedIn != NO_INSTANCE;
        }

        boolean isInRollback() {
            return isInvolved() && rollsBackThere;
        }

        boolean hasNewReceiptFrom(int q) {
            return now.received[q] > permanent.received[q];
        }

        boolean isConcerned(boolean rollback, int asker, int requestLabel) {
            return rollback
                    ? now.received[asker] > requestLabel
                    : requestLabel > permanent.sent[asker];
        }

        void enter(int number, boolean rollback, int itsParent) {
            involvedIn = number;
            rollsBackThere = rollback;
            parent = itsParent;
            answersAwaited = 0;
            allSaidYes = true;
        }

        void makePermanent() {
            permanent.copyFrom(tentative);
            timesMadePermanent++;
        }
    }

    /** The messages from one process to another, the first at place 0. */
    private static final class Channel {
        final int[] labels = new int[CHANNEL_ROOM];
        final int[] values = new int[CHANNEL_ROOM];
        int count;

        void put(int messageLabel, int messageValue) {
            if (count < CHANNEL_ROOM) {
                labels[count] = messageLabel;
                values[count] = messageValue;
                count++;
            }
        }

        void takeFirst() {
            for (int i = 1; i < count; i++) {
                labels[i - 1] = labels[i];
                values[i - 1] = values[i];
            }
            count = Math.max(0, count - 1);
        }

        void takeAbove(int greatestKept) {
            int left = 0;
            for (int i = 0; i < count; i++) {
                if (labels[i] <= greatestKept) {
                    labels[left] = labels[i];
                    values[left] = values[i];
                    left++;
                }
            }
            count = left;
        }
    }

    /** A request (its content is a label), an answer (YES, NO) or a decision (COMMIT, ABORT). */
    private static final class Note {
        int kind;
        int instance;
        int from;
        int to;
        int content;
    }

    /** The notes sent and not delivered, in the order in which they were sent. */
    private static final class NoteLine {
        private final Note[] ring;
        private int firstPlace;
        int count;

        NoteLine(int processCount) {
            // For each two processes at most one request or answer and one decision are under way
            // at a time; in a tick those that it delivers stand beside those sent in it.
            ring = new Note[4 * processCount * (processCount - 1)];
            for (int i = 0; i < ring.length; i++) {
                ring[i] = new Note();
            }
        }

        void add(int kind, int instance, int from, int to, int content) {
            if (count >= ring.length) {
                return;
            }
            Note note = ring[wrapped(firstPlace + count)];
            note.kind = kind;
            note.instance = instance;
            note.from = from;
            note.to = to;
            note.content = content;
            count++;
        }

        Note first() {
            return ring[firstPlace];
        }

        void takeFirst() {
            if (count > 0) {
                firstPlace = wrapped(firstPlace + 1);
                count--;
            }
        }

        private int wrapped(int place) {
            return place < ring.length ? place : place - ring.length;
        }
    }
}
