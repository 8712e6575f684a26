import java.util.List;
import java.util.function.Predicate;

/**
 * "A call that is refused changes nothing.": in many states each call that is to be refused there answers
 * false, all that any call shows is as it was, and so is all that comes later (hidden counters too).
 */
public final class RefusalTest {
    private static final int[] FAR = {Integer.MIN_VALUE, Integer.MIN_VALUE + 1, -41, -5, -2, -1, 41, 64, 255, 256,
        Integer.MAX_VALUE - 1, Integer.MAX_VALUE};
    private static final int OFF = 0;
    private static final int ON = 3;
    private static final int LATER_TICKS = 34;
    private static final Check CHECK = new Check();

    private RefusalTest() {
    }

    public static void main(String[] args) {
        refusedIn("a new object", new Tape(2));
        refusedIn("JOINING", Tape.dialled(2));
        refusedIn("JOINING for two ticks", joiningAlone(2));
        refusedIn("LINKED on its way", after(1));
        refusedIn("in LOGIN, a WAITING session", after(2));
        refusedIn("in LOGIN, session granted", after(4));
        refusedIn("in LOGIN, an ACCEPTED session", after(6));
        refusedIn("ON, an ACCEPTED session", after(8));
        refusedIn("ON, an OPEN session", after(10));
        refusedIn("ON, HELLO on its way", after(12));
        refusedIn("three ON, one OFF", Tape.allOnline(4, 3));
        refusedIn("all ON", Tape.allOnline(4, 4));
        refusedIn("ON and QUIET", quiet());
        refusedIn("39 in flight", filled(39));
        refusedIn("40 in flight", filled(40));
        refusedIn("silent access node", silent(4, 0));
        refusedIn("silent access node, a tick later", silent(4, 1));
        refusedIn("silent server, two ticks later", silent(5, 2));
        refusedIn("access node not silent any more", silent(4, 3));
        refusedIn("channel broken", broken());
        refusedIn("five messages wait", waiting());
        refusedIn("words were heard and told", words());
        CHECK.finish();
    }

    // ---- the states

    private static Tape after(int ticks) {
        Tape x = Tape.dialled(2);
        x.ticks(ticks);
        return x;
    }

    private static Tape joiningAlone(int ticks) {
        Tape x = Tape.dialled(2);
        x.lonelyTicks(ticks);
        return x;
    }

    private static Tape quiet() {
        Tape x = Tape.online(2);
        x.lonelyTicks(8);
        return x;
    }

    private static Tape filled(int count) {
        Tape x = Tape.online(2);
        x.fillUpTo(count, 1);
        return x;
    }

    private static Tape silent(int node, int ticks) {
        Tape x = Tape.online(2);
        x.restart(node);
        x.ticks(ticks);
        return x;
    }

    private static Tape broken() {
        Tape x = Tape.dialled(2);
        x.tick();
        x.lonelyTicks(29);
        return x;
    }

    private static Tape waiting() {
        Tape x = new Tape(2);
        x.allow(1, 77);
        for (int s = 0; s < 4; s++) {
            x.dial(s, 1, 77);
        }
        x.tick();
        return x;
    }

    private static Tape words() {
        Tape x = Tape.online(2);
        for (int w = 1; w <= 9; w++) {
            x.send(0, 1, w);
            x.send(0, 2, w);
            x.core(1, 100 + w);
        }
        x.ticks(2);
        return x;
    }

    // ---- the calls

    private static void refusedIn(String name, Tape x) {
        CHECK.begin(name);
        Tape untouched = x.twin();
        List<Integer> before = x.look();
        refusedAllows(x, before);
        for (int s = -1; s <= 4; s++) {
            refusedOf(x, s, before);
        }
        for (int s : FAR) {
            refusedOf(x, s, before);
        }
        refusedWords(x, before);
        refusedRestarts(x, before);
        refusedInFlight(x, before);
        laterIsTheSame(x, untouched);
    }

    private static void refused(String what, Tape x, List<Integer> before, Predicate<Tape> call) {
        CHECK.no(what, call.test(x));
        CHECK.yes(what + " changes nothing", x.look().equals(before));
    }

    private static void refusedAllows(Tape x, List<Integer> before) {
        refused("allow(-1, 5)", x, before, y -> y.allow(-1, 5));
        refused("allow(4, 5)", x, before, y -> y.allow(4, 5));
        for (int user : FAR) {
            refused("allow(" + user + ", 77)", x, before, y -> y.allow(user, 77));
        }
    }

    private static void refusedOf(Tape x, int s, List<Integer> before) {
        boolean there = s >= 0 && s < 4;
        int state = x.state(s);
        if (!there || state != OFF) {
            refused("dial(" + s + ", 2, 6)", x, before, y -> y.dial(s, 2, 6));
        }
        if (!there || state == OFF) {
            refused("hangup(" + s + ")", x, before, y -> y.hangup(s));
        }
        if (!there || state != ON) {
            refused("send(" + s + ", 1, 9)", x, before, y -> y.send(s, 1, 9));
        }
    }

    private static void refusedWords(Tape x, List<Integer> before) {
        for (int address = -1; address <= 5; address++) {
            refusedWord(x, address, before);
        }
        for (int address : FAR) {
            refusedWord(x, address, before);
        }
    }

    private static void refusedWord(Tape x, int address, List<Integer> before) {
        for (int k = 0; k < 4; k++) {
            if (x.session(k, 2) == 3 && x.session(k, 3) == address) {
                return;
            }
        }
        refused("core(" + address + ", 9)", x, before, y -> y.core(address, 9));
    }

    private static void refusedRestarts(Tape x, List<Integer> before) {
        int[] nodes = {-1, 0, 1, 2, 3, 6, 7};
        for (int node : nodes) {
            refused("restart(" + node + ")", x, before, y -> y.restart(node));
        }
        for (int node : FAR) {
            refused("restart(" + node + ")", x, before, y -> y.restart(node));
        }
    }

    private static void refusedInFlight(Tape x, List<Integer> before) {
        int count = x.flight();
        refused("drop(flight)", x, before, y -> y.drop(count));
        refused("drop(flight + 1)", x, before, y -> y.drop(count + 1));
        refused("swap(flight - 1)", x, before, y -> y.swap(count - 1));
        refused("swap(flight)", x, before, y -> y.swap(count));
        refused("swap(flight + 1)", x, before, y -> y.swap(count + 1));
        for (int k : FAR) {
            refused("drop(" + k + ")", x, before, y -> y.drop(k));
            refused("swap(" + k + ")", x, before, y -> y.swap(k));
        }
    }

    private static void laterIsTheSame(Tape x, Tape untouched) {
        Tape[] both = {x, untouched};
        for (int t = 0; t < LATER_TICKS; t++) {
            for (Tape y : both) {
                if (t == LATER_TICKS / 2) {
                    y.dial(3, 2, 6);
                    y.dial(2, 1, 77);
                }
                y.tick();
            }
            CHECK.yes("all is the same " + t + " ticks later", x.look().equals(untouched.look()));
        }
    }
}
