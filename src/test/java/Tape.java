import java.util.ArrayList;
import java.util.List;
import java.util.function.ToIntFunction;

/**
 * An object of SubscriberLines whose calls are written down. The document speaks of an object's first 512
 * calls alone, so a test that asks for more than that goes on with a new object that was brought to the
 * same state by the calls that act; these have to answer as they did before.
 */
final class Tape {
    static final int MOST_CALLS = 512;
    private static final int MOST_IN_FLIGHT = 40;

    private final int pool;
    private final List<ToIntFunction<SubscriberLines>> acts = new ArrayList<>();
    private final List<Integer> answers = new ArrayList<>();
    private SubscriberLines lines;
    private int used;

    Tape(int pool) {
        this.pool = pool;
        lines = new SubscriberLines(pool);
    }

    // ---- often used states

    /** Subscriber 0 with user 1 has link 1 and the OPEN session 1 with address 1 after ten ticks. */
    static Tape online(int pool) {
        Tape x = dialled(pool);
        x.ticks(10);
        return x;
    }

    /** Subscriber 0 is JOINING with user 1, who is allowed. */
    static Tape dialled(int pool) {
        Tape x = new Tape(pool);
        x.allow(1, 77);
        x.dial(0, 1, 77);
        return x;
    }

    /**
     * The subscribers 0 .. count - 1 have dialled, and as many as the pool has addresses are ON with OPEN
     * sessions; nothing is in flight and no message is there.
     */
    static Tape allOnline(int pool, int count) {
        Tape x = new Tape(pool);
        x.allow(1, 77);
        for (int s = 0; s < count; s++) {
            x.dial(s, 1, 77);
        }
        x.ticks(12);
        for (int t = 0; t < 40 && !x.isCalm(); t++) {
            x.tick();
        }
        return x;
    }

    private boolean isCalm() {
        return flight() == 0 && channel(4, 1) == 0 && channel(5, 1) == 0;
    }

    /** A second object that was brought to the same state. */
    Tape twin() {
        Tape y = new Tape(pool);
        y.acts.addAll(acts);
        y.answers.addAll(answers);
        y.playAgain();
        return y;
    }

    /** How many of the calls that act there were. */
    int acted() {
        return acts.size();
    }

    // ---- the calls that act

    boolean allow(int user, int secret) {
        return act(y -> y.allow(user, secret) ? 1 : 0) == 1;
    }

    boolean dial(int subscriber, int user, int secret) {
        return act(y -> y.dial(subscriber, user, secret) ? 1 : 0) == 1;
    }

    boolean hangup(int subscriber) {
        return act(y -> y.hangup(subscriber) ? 1 : 0) == 1;
    }

    boolean send(int subscriber, int source, int word) {
        return act(y -> y.send(subscriber, source, word) ? 1 : 0) == 1;
    }

    boolean core(int address, int word) {
        return act(y -> y.core(address, word) ? 1 : 0) == 1;
    }

    boolean restart(int node) {
        return act(y -> y.restart(node) ? 1 : 0) == 1;
    }

    int tick() {
        return act(y -> y.tick());
    }

    boolean drop(int k) {
        return act(y -> y.drop(k) ? 1 : 0) == 1;
    }

    boolean swap(int k) {
        return act(y -> y.swap(k) ? 1 : 0) == 1;
    }

    // ---- the calls that look

    int flight() {
        return next().flight();
    }

    int packet(int k, int which) {
        return next().packet(k, which);
    }

    int state(int subscriber) {
        return next().state(subscriber);
    }

    int address(int subscriber) {
        return next().address(subscriber);
    }

    int heard(int subscriber, int k) {
        return next().heard(subscriber, k);
    }

    int cored(int k) {
        return next().cored(k);
    }

    int source(int k) {
        return next().source(k);
    }

    int circuit(int subscriber, int which) {
        return next().circuit(subscriber, which);
    }

    int session(int k, int which) {
        return next().session(k, which);
    }

    int channel(int node, int which) {
        return next().channel(node, which);
    }

    // ---- what is made of several calls

    void ticks(int n) {
        for (int i = 0; i < n; i++) {
            tick();
        }
    }

    void loseAll() {
        for (int left = flight(); left > 0; left--) {
            drop(0);
        }
    }

    /** Loses the packets that go to this node. */
    void loseTo(int node) {
        lose(2, node);
    }

    void loseKind(int kind) {
        lose(0, kind);
    }

    private void lose(int which, int value) {
        for (int k = flight() - 1; k >= 0; k--) {
            if (packet(k, which) == value) {
                drop(k);
            }
        }
    }

    /** Ticks before each of which all that is in flight is lost: only timers do something. */
    void lonelyTicks(int n) {
        for (int i = 0; i < n; i++) {
            loseAll();
            tick();
        }
    }

    /** How many packets before the first one of this kind, or -1 when there is none. */
    int find(int kind) {
        int count = flight();
        for (int k = 0; k < count; k++) {
            if (packet(k, 0) == kind) {
                return k;
            }
        }
        return -1;
    }

    int count(int kind) {
        int found = 0;
        for (int k = flight() - 1; k >= 0; k--) {
            found += packet(k, 0) == kind ? 1 : 0;
        }
        return found;
    }

    /** The first packet of this kind overtakes all others. */
    void bringForward(int kind) {
        for (int k = find(kind) - 1; k >= 0; k--) {
            swap(k);
        }
    }

    /** Dials and hangs up until so many packets are in flight; the subscriber has to be OFF. */
    void fillUpTo(int count, int subscriber) {
        for (int left = count - flight(); left > 0; left--) {
            dial(subscriber, 0, 0);
            hangup(subscriber);
        }
    }

    /** All that any call shows, also for arguments for which there is nothing. */
    List<Integer> look() {
        List<Integer> seen = new ArrayList<>();
        seen.add(flight());
        for (int k = -1; k <= MOST_IN_FLIGHT; k++) {
            for (int which = -1; which <= 9; which++) {
                seen.add(packet(k, which));
            }
        }
        for (int s = -1; s <= 4; s++) {
            seen.add(state(s));
            seen.add(address(s));
            for (int k = -2; k <= 5; k++) {
                seen.add(heard(s, k));
                seen.add(circuit(s, k));
                seen.add(session(s, k));
            }
        }
        for (int k = -3; k <= 8; k++) {
            seen.add(cored(k));
            seen.add(source(k));
        }
        for (int node = 3; node <= 6; node++) {
            for (int which = -1; which <= 5; which++) {
                seen.add(channel(node, which));
            }
        }
        return seen;
    }

    // ---- how the calls are written down

    private int act(ToIntFunction<SubscriberLines> call) {
        int answer = call.applyAsInt(next());
        acts.add(call);
        answers.add(answer);
        return answer;
    }

    private SubscriberLines next() {
        if (used == MOST_CALLS) {
            playAgain();
        }
        if (used == MOST_CALLS) {
            throw new IllegalStateException("this test takes an object beyond its 512 calls");
        }
        used++;
        return lines;
    }

    private void playAgain() {
        lines = new SubscriberLines(pool);
        used = acts.size();
        for (int i = 0; i < used; i++) {
            if (acts.get(i).applyAsInt(lines) != answers.get(i)) {
                throw new IllegalStateException("the same calls answered otherwise, or a call that looks changed something");
            }
        }
    }
}
