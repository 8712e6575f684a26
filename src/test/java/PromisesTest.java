/** Each promise of the document: ordinary inputs, the edges that it names, and wrong inputs. */
public final class PromisesTest {
    private static final int[] NO_SUBSCRIBERS = {-1, 4, 5, Integer.MIN_VALUE, Integer.MAX_VALUE};
    private static final Check CHECK = new Check();

    public static void main(String[] args) {
        newObject();
        poolSize();
        allow();
        dial();
        hangup();
        send();
        core();
        restart();
        tick();
        drop();
        swap();
        flight();
        packet();
        packetOfEachKind();
        state();
        address();
        heard();
        coredAndSource();
        circuit();
        session();
        channel();
        CHECK.finish();
    }

    // ---- promise 1

    private static void newObject() {
        CHECK.begin("1 a new object");
        Tape x = new Tape(2);
        CHECK.same("flight()", x.flight(), 0);
        for (int s = 0; s < 4; s++) {
            CHECK.same("state", x.state(s), 0);
            CHECK.same("address", x.address(s), 0);
            CHECK.same("heard", x.heard(s, -1), 0);
            CHECK.same("circuit", x.circuit(s, 0), 0);
            CHECK.same("session", x.session(s, 0), 0);
        }
        CHECK.same("channel at 4", x.channel(4, 0), 0);
        CHECK.same("channel at 5", x.channel(5, 0), 0);
        CHECK.same("cored", x.cored(-1), 0);
        CHECK.same("rejected", x.cored(-2), 0);
        CHECK.same("tick()", x.tick(), 0);
        CHECK.same("flight() after it", x.flight(), 0);
        for (int user = -1; user <= 4; user++) {
            Tape y = new Tape(4);
            y.dial(0, user, 0);
            y.ticks(10);
            CHECK.same("nobody is allowed", y.state(0), 0);
        }
    }

    private static void poolSize() {
        CHECK.begin("1 the pool");
        int[] pools = {Integer.MIN_VALUE, -1, 0, 1, 2, 3, 4, 5, 9, Integer.MAX_VALUE};
        int[] sizes = {1, 1, 1, 1, 2, 3, 4, 4, 4, 4};
        for (int i = 0; i < pools.length; i++) {
            Tape x = new Tape(pools[i]);
            x.allow(0, 5);
            for (int s = 0; s < 4; s++) {
                x.dial(s, 0, 5);
            }
            x.ticks(20);
            int on = 0;
            for (int s = 0; s < 4; s++) {
                on += x.state(s) == 3 ? 1 : 0;
                CHECK.same("address with pool " + pools[i], x.address(s), s < sizes[i] ? s + 1 : 0);
            }
            CHECK.same("how many are ON with pool " + pools[i], on, sizes[i]);
        }
    }

    // ---- promise 2

    private static void allow() {
        CHECK.begin("2 allow");
        Tape x = new Tape(2);
        int[] none = {-1, 4, Integer.MIN_VALUE, Integer.MAX_VALUE};
        for (int user : none) {
            CHECK.no("allow(" + user + ")", x.allow(user, 1));
        }
        for (int user = 0; user < 4; user++) {
            CHECK.yes("allow(" + user + ")", x.allow(user, Integer.MIN_VALUE + user));
        }
        for (int user = 0; user < 4; user++) {
            CHECK.same("logs in", stateAfterLogin(x, user, Integer.MIN_VALUE + user), 3);
        }
        CHECK.same("wrong secret", stateAfterLogin(x, 0, 1), 0);
        CHECK.same("secret of another", stateAfterLogin(x, 0, Integer.MIN_VALUE + 1), 0);
        CHECK.yes("allow again", x.allow(0, 0));
        CHECK.same("older secret", stateAfterLogin(x, 0, Integer.MIN_VALUE), 0);
        CHECK.same("newer secret", stateAfterLogin(x, 0, 0), 3);
        CHECK.same("no such user", stateAfterLogin(x, 4, 0), 0);
        CHECK.same("no such user", stateAfterLogin(x, -1, 0), 0);
    }

    private static int stateAfterLogin(Tape x, int user, int secret) {
        x.dial(0, user, secret);
        x.ticks(14);
        int state = x.state(0);
        x.hangup(0);
        x.ticks(6);
        return state;
    }

    // ---- promise 3

    private static void dial() {
        CHECK.begin("3 dial");
        Tape x = new Tape(2);
        for (int s : NO_SUBSCRIBERS) {
            CHECK.no("dial(" + s + ")", x.dial(s, 0, 0));
        }
        CHECK.same("nothing was sent", x.flight(), 0);
        for (int s = 3; s >= 0; s--) {
            CHECK.yes("dial(" + s + ")", x.dial(s, Integer.MAX_VALUE, -9));
            CHECK.same("state", x.state(s), 1);
            CHECK.no("dial again", x.dial(s, 0, 0));
        }
        CHECK.same("flight()", x.flight(), 4);
        for (int k = 0; k < 4; k++) {
            CHECK.packet(x, k, 1, 3 - k, 4);
        }
        x.ticks(2);
        CHECK.same("in LOGIN", x.state(0), 2);
        CHECK.no("dial in LOGIN", x.dial(0, 1, 1));
        CHECK.packet(x, 0, 4, 3, 4, 1, Integer.MAX_VALUE, -9);
        Tape y = Tape.online(1);
        CHECK.no("dial when ON", y.dial(0, 1, 77));
        CHECK.same("still ON", y.state(0), 3);
        y.hangup(0);
        CHECK.yes("dial when OFF again", y.dial(0, 1, 77));
    }

    // ---- promise 4

    private static void hangup() {
        CHECK.begin("4 hangup");
        Tape x = new Tape(2);
        for (int s : NO_SUBSCRIBERS) {
            CHECK.no("hangup(" + s + ")", x.hangup(s));
        }
        CHECK.no("hangup when OFF", x.hangup(0));
        x.dial(0, 1, 77);
        CHECK.yes("hangup when JOINING", x.hangup(0));
        CHECK.same("state", x.state(0), 0);
        CHECK.same("JOIN alone is in flight", x.flight(), 1);
        CHECK.no("hangup twice", x.hangup(0));

        x = new Tape(2);
        x.dial(3, 1, 77);
        x.ticks(2);
        int before = x.flight();
        CHECK.yes("hangup in LOGIN", x.hangup(3));
        CHECK.same("state", x.state(3), 0);
        CHECK.packet(x, before, 3, 3, 4, 1);

        x = Tape.online(2);
        before = x.flight();
        CHECK.yes("hangup when ON", x.hangup(0));
        CHECK.same("state", x.state(0), 0);
        CHECK.same("address", x.address(0), 0);
        CHECK.packet(x, before, 3, 0, 4, 1);
        CHECK.same("one packet", x.flight(), before + 1);
    }

    // ---- promise 5

    private static void send() {
        CHECK.begin("5 send");
        Tape x = new Tape(2);
        x.allow(1, 77);
        CHECK.no("send when OFF", x.send(0, 1, 1));
        x.dial(0, 1, 77);
        CHECK.no("send when JOINING", x.send(0, 1, 1));
        x.ticks(2);
        CHECK.no("send in LOGIN", x.send(0, 1, 1));
        x.ticks(8);
        int before = x.flight();
        for (int s : NO_SUBSCRIBERS) {
            CHECK.no("send(" + s + ")", x.send(s, 1, 1));
        }
        CHECK.no("send of another that is OFF", x.send(1, 1, 1));
        CHECK.same("nothing was sent", x.flight(), before);
        CHECK.yes("send with its address", x.send(0, 1, -5));
        CHECK.yes("send with another source", x.send(0, Integer.MIN_VALUE, Integer.MAX_VALUE));
        CHECK.packet(x, before, 10, 0, 4, 1, 1, -5);
        CHECK.packet(x, before + 1, 10, 0, 4, 1, Integer.MIN_VALUE, Integer.MAX_VALUE);
        x.ticks(2);
        CHECK.same("the core got one", x.cored(-1), 1);
        CHECK.same("its word", x.cored(0), -5);
        CHECK.same("one was rejected", x.cored(-2), 1);
    }

    // ---- promise 6

    private static void core() {
        CHECK.begin("6 core");
        Tape x = new Tape(2);
        x.allow(1, 77);
        CHECK.no("core without a session", x.core(1, 1));
        x.dial(0, 1, 77);
        x.ticks(4);
        CHECK.same("WAITING", x.session(0, 2), 1);
        CHECK.no("core to a WAITING session", x.core(0, 1));
        x.ticks(2);
        CHECK.same("ACCEPTED", x.session(0, 2), 2);
        CHECK.no("core to an ACCEPTED session", x.core(1, 1));
        x.ticks(4);
        CHECK.same("OPEN", x.session(0, 2), 3);
        int before = x.flight();
        int[] others = {0, -1, 2, 3, 5, Integer.MIN_VALUE, Integer.MAX_VALUE};
        for (int address : others) {
            CHECK.no("core(" + address + ")", x.core(address, 1));
        }
        CHECK.same("nothing was sent", x.flight(), before);
        CHECK.yes("core(1)", x.core(1, -99));
        CHECK.packet(x, before, 11, 5, 4, 1, 1, -99);
        x.ticks(2);
        CHECK.same("it got the word", x.heard(0, 0), -99);
    }

    // ---- promise 7

    private static void restart() {
        CHECK.begin("7 restart");
        Tape x = Tape.online(2);
        int before = x.flight();
        int[] others = {-1, 0, 3, 6, Integer.MIN_VALUE, Integer.MAX_VALUE};
        for (int node : others) {
            CHECK.no("restart(" + node + ")", x.restart(node));
        }
        CHECK.same("circuit as before", x.circuit(0, 1), 1);
        CHECK.same("session as before", x.session(0, 0), 1);
        CHECK.yes("restart(4)", x.restart(4));
        CHECK.same("no circuit", x.circuit(0, 0), 0);
        CHECK.same("no channel", x.channel(4, 0), 0);
        CHECK.same("the server keeps its channel", x.channel(5, 0), 1);
        CHECK.same("the server keeps its session", x.session(0, 0), 1);
        CHECK.same("the subscriber is ON", x.state(0), 3);
        CHECK.same("flight as before", x.flight(), before);
        CHECK.yes("restart(5)", x.restart(5));
        CHECK.same("no session", x.session(0, 0), 0);
        CHECK.same("no channel", x.channel(5, 0), 0);
        CHECK.no("no session for the core", x.core(1, 1));

        x = new Tape(2);
        x.allow(1, 77);
        x.restart(5);
        x.ticks(3);
        x.dial(0, 1, 77);
        x.ticks(10);
        CHECK.same("the users stay allowed", x.state(0), 3);
        silence();
    }

    private static void silence() {
        Tape x = new Tape(2);
        x.restart(4);
        x.dial(0, 1, 77);
        CHECK.same("first silent tick", x.tick(), 0);
        x.dial(1, 1, 77);
        CHECK.same("second silent tick", x.tick(), 0);
        x.dial(2, 1, 77);
        CHECK.same("third silent tick", x.tick(), 0);
        x.dial(3, 1, 77);
        CHECK.same("it hears again", x.tick(), 2);

        x = new Tape(2);
        x.restart(4);
        x.ticks(2);
        CHECK.yes("restart when silent", x.restart(4));
        for (int i = 0; i < 3; i++) {
            x.dial(i, 1, 77);
            CHECK.same("the three ticks begin anew", x.tick(), 0);
        }
        x.dial(3, 1, 77);
        CHECK.same("then it hears", x.tick(), 2);
    }

    // ---- promise 8

    private static void tick() {
        CHECK.begin("8 tick");
        Tape x = new Tape(2);
        x.allow(1, 77);
        CHECK.same("nothing arrives", x.tick(), 0);
        x.dial(0, 1, 77);
        int[] arrived = {1, 3, 5, 3, 2, 1, 1, 2, 3, 3};
        for (int i = 0; i < arrived.length; i++) {
            CHECK.same("tick " + i, x.tick(), arrived[i]);
        }
        x.dial(1, 1, 77);
        x.restart(4);
        int toAccess = 0;
        for (int k = 0; k < x.flight(); k++) {
            toAccess += x.packet(k, 2) == 4 ? 1 : 0;
        }
        CHECK.yes("some go to the silent node", toAccess > 0 && toAccess < x.flight());
        CHECK.same("those are not counted", x.tick(), 1);
    }

    // ---- promise 9

    private static void drop() {
        CHECK.begin("9 drop");
        Tape x = new Tape(2);
        CHECK.no("drop(0) of none", x.drop(0));
        for (int s = 0; s < 4; s++) {
            x.dial(s, 0, 0);
        }
        int[] none = {-1, 4, 40, Integer.MIN_VALUE, Integer.MAX_VALUE};
        for (int k : none) {
            CHECK.no("drop(" + k + ")", x.drop(k));
        }
        CHECK.same("flight()", x.flight(), 4);
        CHECK.yes("drop(1)", x.drop(1));
        CHECK.same("flight()", x.flight(), 3);
        CHECK.packet(x, 0, 1, 0, 4);
        CHECK.packet(x, 1, 1, 2, 4);
        CHECK.packet(x, 2, 1, 3, 4);
        CHECK.yes("drop the last", x.drop(2));
        CHECK.yes("drop the first", x.drop(0));
        CHECK.packet(x, 0, 1, 2, 4);
        CHECK.same("the last one arrives", x.tick(), 1);
        CHECK.same("of subscriber 2", x.circuit(2, 0), 1);
        CHECK.same("not of subscriber 1", x.circuit(1, 0), 0);
    }

    // ---- promise 10

    private static void swap() {
        CHECK.begin("10 swap");
        Tape x = new Tape(2);
        CHECK.no("swap(0) of none", x.swap(0));
        x.dial(0, 0, 0);
        CHECK.no("swap(0) of one", x.swap(0));
        x.dial(1, 0, 0);
        x.dial(2, 0, 0);
        int[] none = {-1, 2, 3, Integer.MIN_VALUE, Integer.MAX_VALUE};
        for (int k : none) {
            CHECK.no("swap(" + k + ")", x.swap(k));
        }
        CHECK.yes("swap(0)", x.swap(0));
        CHECK.yes("swap(1)", x.swap(1));
        CHECK.packet(x, 0, 1, 1, 4);
        CHECK.packet(x, 1, 1, 2, 4);
        CHECK.packet(x, 2, 1, 0, 4);
        CHECK.same("flight()", x.flight(), 3);
        x.tick();
        CHECK.same("first link", x.circuit(1, 0), 1);
        CHECK.same("second link", x.circuit(2, 0), 2);
        CHECK.same("third link", x.circuit(0, 0), 3);
    }

    // ---- promise 11

    private static void flight() {
        CHECK.begin("11 flight");
        Tape x = Tape.online(2);
        int before = x.flight();
        for (int i = before + 1; i <= 40; i++) {
            CHECK.yes("send", x.send(0, 1, i));
            CHECK.same("flight()", x.flight(), i);
        }
        CHECK.yes("a further one is sent", x.send(0, 1, 1000));
        CHECK.yes("a further one of the core", x.core(1, 1000));
        CHECK.same("but lost", x.flight(), 40);
        CHECK.packet(x, 39, 10, 0, 4, 1, 1, 40);
        CHECK.yes("a place becomes free", x.drop(0));
        CHECK.yes("and is taken", x.send(0, 1, 2000));
        CHECK.packet(x, 39, 10, 0, 4, 1, 1, 2000);
        CHECK.same("all arrive", x.tick(), 40);
        x.tick();
        CHECK.same("the latest word", x.cored(0), 2000);
        CHECK.same("the one before", x.cored(1), 40);
    }

    // ---- promise 12

    private static void packet() {
        CHECK.begin("12 packet");
        Tape x = new Tape(2);
        CHECK.same("of no packet", x.packet(0, 0), 0);
        x.dial(2, 1, 77);
        x.tick();
        int[] none = {-1, 3, 39, 40, 41, Integer.MIN_VALUE, Integer.MAX_VALUE};
        for (int k : none) {
            for (int which = 0; which < 9; which++) {
                CHECK.same("packet(" + k + ", " + which + ")", x.packet(k, which), 0);
            }
        }
        int[] noWhich = {-1, 9, 10, Integer.MIN_VALUE, Integer.MAX_VALUE};
        for (int which : noWhich) {
            CHECK.same("which " + which, x.packet(2, which), 0);
        }
    }

    private static int[] of(int... fields) {
        return fields;
    }

    private static void packetOfEachKind() {
        CHECK.begin("12 packet of each kind");
        Tape x = secondLinkFirstSession();
        packetsUntilOpen(x);
        packetsOfWords(x);
        packetsOfRefusal();
    }

    /** The link of subscriber 2 will be 2, its session 1, its channel 2: no number stands for another. */
    private static Tape secondLinkFirstSession() {
        Tape x = new Tape(1);
        x.allow(1, 77);
        x.dial(2, 1, 77);
        x.tick();
        for (int k = 2; k >= 0; k--) {
            x.drop(k);
        }
        x.restart(4);
        x.hangup(2);
        x.ticks(3);
        x.dial(2, 1, 77);
        return x;
    }

    private static void packetsUntilOpen(Tape x) {
        int[] open = of(12, 4, 5, 0, 0, 0, 2, 0, 0);
        int[] grant = of(14, 5, 4, 2, 1, 0, 2, 0, 2);
        int[] ackUp = of(17, 4, 5, 0, 0, 0, 2, 0, 1);
        int[] ackDown = of(17, 5, 4, 0, 0, 0, 2, 0, 2);
        int[] login = of(4, 2, 4, 2, 1, 77);
        int[] loginOn = of(4, 4, 5, 1, 1, 77);
        int[] accept = of(5, 5, 4, 2, 1);
        int[] acceptOn = of(5, 4, 2, 2, 1);
        int[] ready = of(7, 2, 4, 2);
        CHECK.flight(x, of(1, 2, 4));
        x.tick();
        CHECK.flight(x, of(2, 4, 2, 2), open, of(13, 4, 5, 2, 0, 0, 2, 1, 0));
        x.tick();
        CHECK.flight(x, login, of(17, 5, 4, 0, 0, 0, 2, 0, 1), grant, ackDown, open);
        x.tick();
        CHECK.flight(x, ackUp, ackDown, grant);
        x.tick();
        CHECK.flight(x, ackUp, login);
        x.tick();
        CHECK.flight(x, loginOn);
        x.tick();
        CHECK.flight(x, accept);
        x.tick();
        CHECK.flight(x, acceptOn, login);
        x.tick();
        CHECK.flight(x, ready, loginOn, accept);
        x.tick();
        CHECK.flight(x, of(7, 4, 5, 1), accept, acceptOn);
        x.tick();
        CHECK.flight(x, acceptOn, ready);
    }

    private static void packetsOfWords(Tape x) {
        x.send(2, 1, 50);
        CHECK.packet(x, 2, 10, 2, 4, 2, 1, 50);
        x.tick();
        CHECK.flight(x, of(7, 2, 4, 2), of(7, 4, 5, 1), of(10, 4, 5, 1, 1, 50));
        x.tick();
        CHECK.flight(x, of(7, 4, 5, 1), of(16, 4, 5, 0, 0, 0, 2, 2, 1));
        x.core(1, 60);
        CHECK.packet(x, 2, 11, 5, 4, 2, 1, 60);
        x.tick();
        CHECK.flight(x, of(17, 5, 4, 0, 0, 0, 2, 0, 3), of(11, 4, 2, 2, 1, 60));
        x.ticks(2);
        CHECK.flight(x);
        x.tick();
        CHECK.flight(x, of(8, 5, 4, 2));
        x.tick();
        CHECK.flight(x, of(8, 4, 2, 2));
        x.tick();
        CHECK.flight(x, of(9, 2, 4, 2));
        x.tick();
        CHECK.flight(x, of(9, 4, 5, 1));
        x.tick();
        x.hangup(2);
        CHECK.flight(x, of(3, 2, 4, 2));
        x.tick();
        CHECK.flight(x, of(15, 4, 5, 1, 0, 0, 2, 3, 1));
    }

    private static void packetsOfRefusal() {
        Tape x = new Tape(1);
        x.allow(1, 77);
        x.dial(0, 1, 76);
        x.ticks(6);
        int[] message = of(15, 5, 4, 1, 0, 0, 1, 1, 2);
        CHECK.flight(x, of(6, 5, 4, 1), message);
        x.tick();
        int[] login = of(4, 0, 4, 1, 1, 76);
        CHECK.flight(x, of(6, 4, 0, 1), of(3, 4, 0, 1), of(17, 4, 5, 0, 0, 0, 1, 0, 2), login, message);
    }

    // ---- promise 13

    private static void state() {
        CHECK.begin("13 state");
        Tape x = new Tape(2);
        for (int s : NO_SUBSCRIBERS) {
            CHECK.same("state(" + s + ")", x.state(s), -1);
        }
        x.allow(1, 77);
        CHECK.same("OFF", x.state(0), 0);
        x.dial(0, 1, 77);
        CHECK.same("JOINING", x.state(0), 1);
        x.tick();
        CHECK.same("JOINING still", x.state(0), 1);
        x.tick();
        CHECK.same("LOGIN", x.state(0), 2);
        x.ticks(5);
        CHECK.same("LOGIN still", x.state(0), 2);
        x.tick();
        CHECK.same("ON", x.state(0), 3);
        CHECK.same("of the others", x.state(1) + x.state(2) + x.state(3), 0);
        x.hangup(0);
        CHECK.same("OFF again", x.state(0), 0);
    }

    // ---- promise 14

    private static void address() {
        CHECK.begin("14 address");
        Tape x = new Tape(2);
        x.allow(1, 77);
        for (int s : NO_SUBSCRIBERS) {
            CHECK.same("address(" + s + ")", x.address(s), 0);
        }
        x.dial(3, 1, 77);
        for (int i = 0; i < 7; i++) {
            x.tick();
            CHECK.same("not ON yet", x.address(3), 0);
        }
        x.tick();
        CHECK.same("ON", x.address(3), 1);
        x.dial(0, 1, 77);
        x.ticks(12);
        CHECK.same("the next one", x.address(0), 2);
        x.hangup(3);
        CHECK.same("OFF", x.address(3), 0);
        x.ticks(4);
        x.dial(1, 1, 77);
        x.ticks(12);
        CHECK.same("the lowest free one", x.address(1), 1);
    }

    // ---- promise 15

    private static void heard() {
        CHECK.begin("15 heard");
        Tape x = Tape.online(2);
        CHECK.same("none yet", x.heard(0, -1), 0);
        CHECK.same("none yet", x.heard(0, 0), 0);
        for (int w = 1; w <= 6; w++) {
            x.core(1, 10 * w);
        }
        x.tick();
        CHECK.same("not there yet", x.heard(0, -1), 0);
        x.tick();
        CHECK.same("how many", x.heard(0, -1), 6);
        for (int k = 0; k < 4; k++) {
            CHECK.same("heard(0, " + k + ")", x.heard(0, k), 60 - 10 * k);
        }
        int[] none = {-2, -3, 4, 5, 6, Integer.MIN_VALUE, Integer.MAX_VALUE};
        for (int k : none) {
            CHECK.same("heard(0, " + k + ")", x.heard(0, k), 0);
        }
        CHECK.same("of another", x.heard(1, -1), 0);
        for (int s : NO_SUBSCRIBERS) {
            for (int k = -1; k < 4; k++) {
                CHECK.same("heard(" + s + ", " + k + ")", x.heard(s, k), 0);
            }
        }
        x.hangup(0);
        x.restart(4);
        x.restart(5);
        CHECK.same("over the whole life", x.heard(0, -1), 6);
        CHECK.same("over the whole life", x.heard(0, 3), 30);
    }

    // ---- promises 16 and 17

    private static void coredAndSource() {
        CHECK.begin("16 cored, 17 source");
        Tape x = twoOnline();
        for (int w = 1; w <= 5; w++) {
            x.send(0, 1, 10 * w);
            x.send(1, 2, 10 * w + 1);
            x.send(1, 1, 999);
        }
        x.ticks(2);
        CHECK.same("how many", x.cored(-1), 10);
        CHECK.same("rejected", x.cored(-2), 5);
        for (int k = 0; k < 8; k++) {
            int nth = 9 - k;
            CHECK.same("cored(" + k + ")", x.cored(k), 10 * (nth / 2 + 1) + nth % 2);
            CHECK.same("source(" + k + ")", x.source(k), 1 + nth % 2);
        }
        int[] none = {-3, 8, 9, 10, Integer.MIN_VALUE, Integer.MAX_VALUE};
        for (int k : none) {
            CHECK.same("cored(" + k + ")", x.cored(k), 0);
            CHECK.same("source(" + k + ")", x.source(k), 0);
        }
        CHECK.same("source(-1)", x.source(-1), 0);
        CHECK.same("source(-2)", x.source(-2), 0);
        x.restart(5);
        CHECK.same("over the whole life", x.cored(-1), 10);
        CHECK.same("over the whole life", x.cored(-2), 5);
        CHECK.same("over the whole life", x.cored(0), 51);
        CHECK.same("over the whole life", x.source(0), 2);

        Tape y = Tape.online(2);
        y.send(0, 1, 5);
        y.ticks(2);
        CHECK.same("one word", y.cored(0), 5);
        CHECK.same("not so many", y.cored(1), 0);
        CHECK.same("not so many", y.source(1), 0);
    }

    private static Tape twoOnline() {
        Tape x = Tape.online(2);
        x.dial(1, 1, 77);
        x.ticks(12);
        CHECK.same("address of 0", x.address(0), 1);
        CHECK.same("address of 1", x.address(1), 2);
        return x;
    }

    // ---- promise 18

    private static void circuit() {
        CHECK.begin("18 circuit");
        Tape x = new Tape(2);
        x.dial(1, 0, 0);
        x.dial(0, 0, 0);
        CHECK.same("none yet", x.circuit(1, 0), 0);
        x.tick();
        CHECK.same("link of 1", x.circuit(1, 0), 1);
        CHECK.same("link of 0", x.circuit(0, 0), 2);
        CHECK.same("no session yet", x.circuit(1, 1), 0);
        x.ticks(2);
        CHECK.same("session of 1", x.circuit(1, 1), 1);
        CHECK.same("session of 0", x.circuit(0, 1), 2);
        int[] noWhich = {-1, 2, Integer.MIN_VALUE, Integer.MAX_VALUE};
        for (int which : noWhich) {
            CHECK.same("which " + which, x.circuit(1, which), 0);
        }
        CHECK.same("no circuit", x.circuit(2, 0), 0);
        CHECK.same("no circuit", x.circuit(2, 1), 0);
        for (int s : NO_SUBSCRIBERS) {
            CHECK.same("circuit(" + s + ", 0)", x.circuit(s, 0), 0);
            CHECK.same("circuit(" + s + ", 1)", x.circuit(s, 1), 0);
        }
        x.hangup(1);
        x.tick();
        CHECK.same("taken down", x.circuit(1, 0), 0);
        CHECK.same("taken down", x.circuit(1, 1), 0);
    }

    // ---- promise 19

    private static void session() {
        CHECK.begin("19 session");
        Tape x = new Tape(2);
        x.allow(1, 77);
        x.dial(3, 1, 77);
        x.dial(0, 1, 77);
        x.tick();
        CHECK.same("none yet", x.session(0, 0), 0);
        x.ticks(2);
        CHECK.session(x, 0, 1, 1, 1, 0, 2);
        CHECK.session(x, 1, 2, 2, 1, 0, 2);
        CHECK.session(x, 2, 0, 0, 0, 0, 0);
        x.ticks(3);
        // The timer of subscriber 0 sends LOGIN again before that of subscriber 3.
        CHECK.session(x, 0, 1, 1, 2, 2, 1);
        CHECK.session(x, 1, 2, 2, 2, 1, 1);
        x.ticks(4);
        CHECK.same("OPEN", x.session(0, 2), 3);
        CHECK.same("OPEN", x.session(1, 2), 3);
        CHECK.same("address", x.session(1, 3), 1);
        int[] none = {-1, 2, 3, 4, Integer.MIN_VALUE, Integer.MAX_VALUE};
        for (int k : none) {
            CHECK.session(x, k, 0, 0, 0, 0, 0);
        }
        int[] noWhich = {-1, 5, Integer.MIN_VALUE, Integer.MAX_VALUE};
        for (int which : noWhich) {
            CHECK.same("which " + which, x.session(0, which), 0);
        }
        x.hangup(3);
        x.ticks(2);
        CHECK.same("the other one is first", x.session(0, 0), 2);
        CHECK.same("and the only one", x.session(1, 0), 0);
    }

    // ---- promise 20

    private static void channel() {
        CHECK.begin("20 channel");
        Tape x = new Tape(2);
        CHECK.channel(x, 4, 0, 0, 0, 0, 0);
        CHECK.channel(x, 5, 0, 0, 0, 0, 0);
        x.dial(0, 1, 77);
        x.dial(1, 1, 77);
        x.tick();
        CHECK.channel(x, 4, 1, 3, 0, 0, 1);
        CHECK.channel(x, 5, 0, 0, 0, 0, 0);
        x.tick();
        CHECK.channel(x, 4, 1, 3, 0, 1, 4);
        CHECK.channel(x, 5, 1, 2, 3, 0, 1);
        x.tick();
        CHECK.channel(x, 4, 1, 0, 2, 0, 0);
        CHECK.channel(x, 5, 1, 2, 3, 1, 4);
        x.tick();
        CHECK.channel(x, 5, 1, 0, 3, 0, 0);
        int[] noWhich = {-1, 5, Integer.MIN_VALUE, Integer.MAX_VALUE};
        for (int which : noWhich) {
            CHECK.same("which " + which, x.channel(4, which), 0);
            CHECK.same("which " + which, x.channel(5, which), 0);
        }
        int[] noNode = {-1, 0, 3, 6, Integer.MIN_VALUE, Integer.MAX_VALUE};
        for (int node : noNode) {
            CHECK.channel(x, node, 0, 0, 0, 0, 0);
        }
        x.restart(4);
        CHECK.channel(x, 4, 0, 0, 0, 0, 0);
        CHECK.same("the other end stays", x.channel(5, 2), 3);
    }
}
