import java.util.Random;

/** Runs of chosen calls: the program has to answer everything as the model does. */
public final class ModelTest {
    private static final int RUNS = 1600;
    private static final int PHASE = 128;
    private static final int[] LENGTHS = {480, 400, 300, 200};
    private static final int LOOK_EVERY = 24;
    private static final int PEEKS = 4;
    private static final Check CHECK = new Check();

    private ModelTest() {
    }

    public static void main(String[] args) {
        for (int run = 0; run < RUNS && CHECK.clean(); run++) {
            compare(run);
        }
        CHECK.finish();
    }

    private static void compare(int run) {
        Random r = new Random(run);
        int pool = r.nextInt(7) - 1;
        Tape x = new Tape(pool);
        Model m = new Model(pool);
        int length = LENGTHS[run % LENGTHS.length];
        for (int call = 0; x.acted() < length && CHECK.clean(); call++) {
            CHECK.begin("run " + run + ", step " + call);
            boolean late = call % PHASE >= PHASE / 2;
            step(x, m, r, weights(late ? run / 4 % 8 : 0));
            if (late && run / 4 % 8 == 7) {
                cutOneWay(x, m, 4 + run / 32 % 2, length);
            }
            for (int i = 0; i < PEEKS; i++) {
                peek(x, m, r);
            }
            if (call % LOOK_EVERY == LOOK_EVERY - 1) {
                lookAtAll(x, m);
            }
        }
        lookAtAll(x, m);
    }

    // One direction of the channel loses everything, so that an end that waits for it breaks.
    private static void cutOneWay(Tape x, Model m, int to, int length) {
        for (int k = m.flight() - 1; k >= 0 && x.acted() < length; k--) {
            if (m.packet(k, 0) >= 12 && m.packet(k, 2) == to) {
                same("drop", x.drop(k), m.drop(k));
            }
        }
    }

    // allow, dial, hangup, send, core, restart, drop, swap, tick
    private static int[] weights(int style) {
        switch (style) {
            case 0: return new int[] {2, 8, 1, 8, 8, 0, 0, 0, 60};
            case 1: return new int[] {2, 8, 1, 8, 8, 1, 10, 10, 60};
            case 2: return new int[] {2, 30, 30, 2, 2, 0, 5, 5, 12};
            case 3: return new int[] {2, 10, 2, 30, 20, 0, 2, 5, 20};
            case 4: return new int[] {1, 5, 0, 3, 3, 0, 60, 5, 60};
            case 5: return new int[] {0, 6, 2, 50, 50, 0, 1, 4, 2};
            case 6: return new int[] {1, 6, 2, 5, 5, 4, 4, 20, 60};
            default: return new int[] {1, 10, 2, 10, 5, 0, 0, 2, 60};
        }
    }

    private static int choose(Random r, int[] weights) {
        int sum = 0;
        for (int w : weights) {
            sum += w;
        }
        int left = r.nextInt(sum);
        int i = 0;
        while (left >= weights[i]) {
            left -= weights[i];
            i++;
        }
        return i;
    }

    private static void step(Tape x, Model m, Random r, int[] weights) {
        int s = r.nextInt(40) == 0 ? r.nextInt(8) - 2 : r.nextInt(4);
        int user = r.nextInt(30) == 0 ? r.nextInt(8) - 2 : r.nextInt(4);
        int secret = r.nextInt(20) == 0 ? r.nextInt() : 7;
        int address = r.nextInt(6);
        int word = r.nextInt(20) == 0 ? r.nextInt() : r.nextInt(1000);
        int k = r.nextInt(30) == 0 ? r.nextInt() : r.nextInt(m.flight() + 2) - (r.nextInt(20) == 0 ? 1 : 0);
        int source = r.nextInt(4) == 0 ? address : m.address(s);
        switch (choose(r, weights)) {
            case 0: same("allow", x.allow(user, secret), m.allow(user, secret)); break;
            case 1: same("dial", x.dial(s, user, secret), m.dial(s, user, secret)); break;
            case 2: same("hangup", x.hangup(s), m.hangup(s)); break;
            case 3: same("send", x.send(s, source, word), m.send(s, source, word)); break;
            case 4: same("core", x.core(address, word), m.core(address, word)); break;
            case 5: restart(x, m, r.nextInt(8) == 0 ? r.nextInt(9) - 1 : 4 + r.nextInt(2)); break;
            case 6: same("drop", x.drop(k), m.drop(k)); break;
            case 7: same("swap", x.swap(k), m.swap(k)); break;
            default: CHECK.same("tick", x.tick(), m.tick()); break;
        }
    }

    private static void restart(Tape x, Model m, int node) {
        same("restart", x.restart(node), m.restart(node));
    }

    private static void same(String what, boolean got, boolean want) {
        CHECK.same(what, got ? 1 : 0, want ? 1 : 0);
    }

    private static void peek(Tape x, Model m, Random r) {
        int k = r.nextInt(8);
        int which = r.nextInt(9);
        int place = r.nextInt(m.flight() + 1);
        switch (r.nextInt(10)) {
            case 0: CHECK.same("flight()", x.flight(), m.flight()); break;
            case 1: CHECK.same("state " + k, x.state(k), m.state(k)); break;
            case 2: CHECK.same("address " + k, x.address(k), m.address(k)); break;
            case 3: CHECK.same("heard " + k, x.heard(k, which - 2), m.heard(k, which - 2)); break;
            case 4: CHECK.same("cored " + k, x.cored(which - 2), m.cored(which - 2)); break;
            case 5: CHECK.same("circuit " + k, x.circuit(k, which % 2), m.circuit(k, which % 2)); break;
            case 6: CHECK.same("session " + k, x.session(k, which % 6), m.session(k, which % 6)); break;
            case 7: CHECK.same("channel 4", x.channel(4, k - 1), m.channel(4, k - 1)); break;
            case 8: CHECK.same("channel 5", x.channel(5, k - 1), m.channel(5, k - 1)); break;
            default: CHECK.same("packet " + place, x.packet(place, which), m.packet(place, which)); break;
        }
    }

    private static void lookAtAll(Tape x, Model m) {
        CHECK.same("flight()", x.flight(), m.flight());
        for (int k = -1; k <= m.flight(); k++) {
            for (int which = -1; which <= 9; which++) {
                CHECK.same("packet " + k + " " + which, x.packet(k, which), m.packet(k, which));
            }
        }
        for (int s = -1; s <= 4; s++) {
            CHECK.same("state " + s, x.state(s), m.state(s));
            CHECK.same("address " + s, x.address(s), m.address(s));
            for (int k = -3; k <= 5; k++) {
                CHECK.same("heard " + s + " " + k, x.heard(s, k), m.heard(s, k));
                CHECK.same("circuit " + s + " " + k, x.circuit(s, k), m.circuit(s, k));
                CHECK.same("session " + s + " " + k, x.session(s, k), m.session(s, k));
            }
        }
        for (int k = -4; k <= 9; k++) {
            CHECK.same("cored " + k, x.cored(k), m.cored(k));
            CHECK.same("source " + k, x.source(k), m.source(k));
        }
        for (int node = -1; node <= 6; node++) {
            for (int which = -1; which <= 6; which++) {
                CHECK.same("channel " + node + " " + which, x.channel(node, which), m.channel(node, which));
            }
        }
    }
}
