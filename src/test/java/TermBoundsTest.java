/**
 * The sentences under "Terms" about packets, ticks, numbers, subscribers and the access node that name a
 * boundary case: each has a test at it and on both sides. ChannelBoundsTest has the server and the channel.
 */
public final class TermBoundsTest {
    private static final Check CHECK = new Check();

    private TermBoundsTest() {
    }

    public static void main(String[] args) {
        dialWhenFortyAreInFlight();
        hangupWhenFortyAreInFlight();
        sendWhenFortyAreInFlight();
        coreWhenFortyAreInFlight();
        lostPacketStaysLost();
        nodesSendWhenFortyAreInFlight();
        timersSendWhenFortyAreInFlight();
        whatIsSentInATickArrivesInTheNext();
        timersRunInTheirOrder();
        silentForThreeTicks();
        onlyTheNodeThatRestartsIsSilent();
        restartForgetsTheCircuits();
        restartForgetsTheSessions();
        usersAreNotForgotten();
        packetsOutliveTheRestart();
        linksAreNotUsedTwice();
        sessionsAreNotUsedTwice();
        channelsAreNotUsedTwice();
        linkedWhenOff();
        linkedInLogin();
        otherLinkInLogin();
        oldLinkWhenJoining();
        oldLinkWhenOff();
        joinAtTheThirdRun();
        joinFourTimes();
        countOfJoinsBeginsAnew();
        loginAtTheThirdRun();
        loginFourTimesInThisState();
        refuseInLogin();
        leaveInLogin();
        leaveWhenOn();
        acceptAgainWhenOn();
        quietUpToSixteen();
        quietAfterAcceptEchoDown();
        quietIsNotEndedBySending();
        joinWithoutCircuit();
        joinWithCircuitWithoutSession();
        joinWithCircuitWithSession();
        leaveWithoutSession();
        leaveWithSession();
        leaveWithOtherLink();
        loginWithoutSession();
        loginWithOtherLink();
        downWithoutCircuit();
        grantWithoutCircuit();
        dropWithoutCircuit();
        dropWithCircuit();
        helloWhenIdleIsTen();
        helloAgainTenTicksLater();
        messageEndsIdle();
        noHelloWithoutChannel();
        brokenChannelEndsAllCircuits();
        CHECK.finish();
    }

    private static int[] of(int... fields) {
        return fields;
    }

    /** So many in flight, all of them words of subscriber 0, which is ON with an OPEN session. */
    private static Tape wordsInFlight(int count) {
        Tape x = Tape.allOnline(2, 1);
        for (int w = 1; w <= count; w++) {
            x.send(0, 1, w);
        }
        CHECK.same("flight()", x.flight(), count);
        return x;
    }

    // ---- packets in flight

    private static void dialWhenFortyAreInFlight() {
        CHECK.begin("40 in flight: JOIN");
        Tape x = wordsInFlight(39);
        CHECK.yes("dial", x.dial(2, 1, 77));
        CHECK.same("flight()", x.flight(), 40);
        CHECK.packet(x, 39, 1, 2, 4);
        CHECK.yes("dial", x.dial(3, 1, 77));
        CHECK.same("it is JOINING", x.state(3), 1);
        CHECK.same("flight()", x.flight(), 40);
        CHECK.packet(x, 0, 10, 0, 4, 1, 1, 1);
        CHECK.packet(x, 39, 1, 2, 4);
        CHECK.packet(x, 40);
        x.tick();
        CHECK.same("the circuit of 2", x.circuit(2, 0), 2);
        CHECK.same("none of 3", x.circuit(3, 0), 0);
        // It was sent all the same: the third run of the timer sends it again.
        x.lonelyTicks(1);
        CHECK.same("JOIN at the second run", x.count(1), 0);
        x.lonelyTicks(1);
        CHECK.packet(x, 0, 1, 2, 4);
        CHECK.packet(x, 1, 1, 3, 4);
    }

    private static void hangupWhenFortyAreInFlight() {
        CHECK.begin("40 in flight: LEAVE");
        Tape x = wordsInFlight(39);
        CHECK.yes("hangup", x.hangup(0));
        CHECK.packet(x, 39, 3, 0, 4, 1);
        x.tick();
        CHECK.same("no circuit", x.circuit(0, 0), 0);
        x = wordsInFlight(40);
        CHECK.yes("hangup", x.hangup(0));
        CHECK.same("it is OFF", x.state(0), 0);
        CHECK.same("flight()", x.flight(), 40);
        CHECK.packet(x, 39, 10, 0, 4, 1, 1, 40);
        x.tick();
        CHECK.same("the circuit is there", x.circuit(0, 0), 1);
    }

    private static void sendWhenFortyAreInFlight() {
        CHECK.begin("40 in flight: UP");
        Tape x = wordsInFlight(40);
        CHECK.yes("send", x.send(0, 1, 41));
        CHECK.same("flight()", x.flight(), 40);
        for (int k = 0; k < 40; k++) {
            CHECK.same("word of " + k, x.packet(k, 5), k + 1);
        }
        x.tick();
        CHECK.same("all go on", x.count(10), 40);
        x.tick();
        CHECK.same("the core got 40", x.cored(-1), 40);
        CHECK.same("the latest", x.cored(0), 40);
    }

    private static void coreWhenFortyAreInFlight() {
        CHECK.begin("40 in flight: DOWN");
        Tape x = wordsInFlight(39);
        CHECK.yes("core", x.core(1, 51));
        CHECK.packet(x, 39, 11, 5, 4, 1, 1, 51);
        CHECK.yes("core", x.core(1, 52));
        CHECK.same("flight()", x.flight(), 40);
        CHECK.packet(x, 39, 11, 5, 4, 1, 1, 51);
        x.ticks(2);
        CHECK.same("one word", x.heard(0, -1), 1);
        CHECK.same("the first", x.heard(0, 0), 51);
    }

    private static void lostPacketStaysLost() {
        CHECK.begin("40 in flight: what is lost stays lost");
        Tape x = wordsInFlight(40);
        x.send(0, 1, 41);
        x.drop(39);
        CHECK.same("flight()", x.flight(), 39);
        CHECK.packet(x, 39);
        x.send(0, 1, 42);
        CHECK.packet(x, 39, 10, 0, 4, 1, 1, 42);
        x.send(0, 1, 43);
        CHECK.packet(x, 39, 10, 0, 4, 1, 1, 42);
        CHECK.same("flight()", x.flight(), 40);
    }

    private static void nodesSendWhenFortyAreInFlight() {
        CHECK.begin("40 in flight: what the access node sends");
        // Each JOIN that arrives leaves one place; the first sends LINKED, OPEN, ASK, the second LINKED, ASK.
        for (int joins = 36; joins <= 40; joins++) {
            Tape x = new Tape(1);
            x.fillUpTo(joins, 0);
            CHECK.same("tick()", x.tick(), joins);
            int room = 40 - joins;
            CHECK.same("flight() after " + joins, x.flight(), Math.min(40, joins + 3));
            CHECK.same("LINKED", x.count(2), joins);
            CHECK.same("OPEN", x.count(12), room >= 1 ? 1 : 0);
            CHECK.same("ASK", x.count(13), Math.max(0, Math.min(2, room - 1)));
            CHECK.same("all messages are there", x.channel(4, 1), joins + 1);
            CHECK.same("the latest link", x.circuit(0, 0), joins);
        }
    }

    private static void timersSendWhenFortyAreInFlight() {
        CHECK.begin("40 in flight: what timers send");
        for (int joins = 39; joins <= 40; joins++) {
            Tape x = Tape.dialled(1);
            x.lonelyTicks(2);
            x.loseAll();
            x.fillUpTo(joins, 1);
            x.tick();
            // LINKED for each JOIN, OPEN or nothing, and no place for the JOIN of subscriber 0.
            CHECK.same("flight()", x.flight(), 40);
            CHECK.same("JOIN is lost", x.count(1), 0);
            x.lonelyTicks(2);
            CHECK.same("JOIN before the third run", x.count(1), 0);
            x.lonelyTicks(1);
            CHECK.same("JOIN at the third run", x.count(1), 1);
        }
        Tape y = Tape.dialled(1);
        y.lonelyTicks(2);
        y.loseAll();
        y.fillUpTo(36, 1);
        y.tick();
        CHECK.same("flight()", y.flight(), 40);
        CHECK.packet(y, 39, 1, 0, 4);
    }

    private static void whatIsSentInATickArrivesInTheNext() {
        CHECK.begin("what nodes send then is behind them and arrives in the next tick");
        Tape x = new Tape(1);
        x.dial(0, 1, 77);
        x.dial(1, 1, 77);
        CHECK.same("the JOINs alone arrive", x.tick(), 2);
        CHECK.kinds(x, 2, 12, 13, 2, 13);
        CHECK.same("LINKED has not arrived", x.state(0), 1);
        CHECK.same("OPEN has not arrived", x.channel(5, 0), 0);
        CHECK.same("these five alone arrive", x.tick(), 5);
        CHECK.same("LINKED has arrived", x.state(0), 2);
        CHECK.same("LINKED has arrived", x.state(1), 2);
        CHECK.same("OPEN has arrived", x.channel(5, 0), 1);
        CHECK.same("GRANT has not", x.circuit(0, 1), 0);
    }

    private static void timersRunInTheirOrder() {
        CHECK.begin("then the timers run, of subscriber 0, 1, 2, 3, of the access node, of the server");
        Tape x = Tape.dialled(1);
        x.ticks(9);
        x.send(0, 1, 5);
        x.ticks(2);
        // The word made QUIET 0 in this tick: ECHO is due three ticks later, and so are the JOINs and HELLO again.
        x.dial(3, 1, 77);
        x.dial(1, 1, 77);
        x.dial(2, 1, 77);
        x.lonelyTicks(3);
        CHECK.flight(x, of(1, 1, 4), of(1, 2, 4), of(1, 3, 4), of(16, 4, 5, 0, 0, 0, 1, 2, 1), of(8, 5, 4, 1));
    }

    // ---- restarts and numbers

    private static void silentForThreeTicks() {
        CHECK.begin("silent for the timers of three ticks");
        for (int passed = 0; passed <= 4; passed++) {
            Tape x = new Tape(1);
            x.restart(4);
            x.ticks(passed);
            x.dial(0, 1, 77);
            boolean hears = passed >= 3;
            CHECK.same("tick() after " + passed, x.tick(), hears ? 1 : 0);
            CHECK.same("circuit after " + passed, x.circuit(0, 0), hears ? 1 : 0);
            CHECK.same("flight() after " + passed, x.flight(), hears ? 3 : 0);
        }
        for (int passed = 1; passed <= 5; passed++) {
            Tape y = new Tape(1);
            y.restart(5);
            y.ticks(passed - 1);
            y.dial(0, 1, 77);
            y.tick();
            CHECK.kinds(y, 2, 12, 13);
            boolean hears = passed >= 3;
            CHECK.same("tick() after " + passed, y.tick(), hears ? 3 : 1);
            CHECK.same("channel after " + passed, y.channel(5, 0), hears ? 1 : 0);
            CHECK.same("ACKs after " + passed, y.count(17), hears ? 2 : 0);
        }
    }

    private static void onlyTheNodeThatRestartsIsSilent() {
        CHECK.begin("packets that arrive at it are lost, and no others");
        Tape x = Tape.allOnline(1, 1);
        x.restart(5);
        x.send(0, 1, 5);
        CHECK.same("the access node hears", x.tick(), 1);
        CHECK.kinds(x, 10);
        CHECK.same("the server does not", x.tick(), 0);
        x = Tape.allOnline(1, 1);
        x.core(1, 5);
        x.tick();
        CHECK.kinds(x, 11);
        x.restart(4);
        CHECK.same("the subscriber hears", x.tick(), 1);
        CHECK.same("its word", x.heard(0, 0), 5);
    }

    private static void restartForgetsTheCircuits() {
        CHECK.begin("the access node forgets everything");
        Tape x = Tape.allOnline(4, 4);
        x.restart(4);
        for (int s = 0; s < 4; s++) {
            CHECK.same("link", x.circuit(s, 0), 0);
            CHECK.same("session", x.circuit(s, 1), 0);
            CHECK.same("the subscriber is ON", x.state(s), 3);
            CHECK.session(x, s, s + 1, s + 1, 3, s + 1);
        }
        CHECK.channel(x, 4, 0, 0, 0, 0, 0);
        CHECK.same("it sends nothing", x.flight(), 0);
        x.ticks(3);
        x.loseAll();
        x.send(0, 1, 5);
        x.core(1, 6);
        CHECK.same("both arrive", x.tick(), 2);
        CHECK.same("UP does not go on", x.count(10), 0);
        CHECK.same("DOWN does not go on", x.count(11), 0);
        // Three messages wait when it restarts; the first message of the next channel is the only one there is.
        Tape y = new Tape(1);
        y.dial(0, 1, 77);
        y.dial(1, 1, 77);
        y.tick();
        CHECK.channel(y, 4, 1, 3, 0, 0, 1);
        y.loseAll();
        y.restart(4);
        y.lonelyTicks(5);
        CHECK.kinds(y, 1, 1);
        y.drop(1);
        y.tick();
        CHECK.channel(y, 4, 2, 2, 0, 0, 1);
    }

    private static void restartForgetsTheSessions() {
        CHECK.begin("the server forgets everything");
        Tape x = Tape.allOnline(1, 1);
        x.restart(5);
        CHECK.session(x, 0, 0, 0, 0, 0, 0);
        CHECK.channel(x, 5, 0, 0, 0, 0, 0);
        CHECK.same("circuit", x.circuit(0, 1), 1);
        CHECK.same("it sends nothing", x.flight(), 0);
        x.lonelyTicks(3);
        x.loseAll();
        x.restart(4);
        x.lonelyTicks(3);
        x.hangup(0);
        x.loseAll();
        x.dial(1, 1, 77);
        x.ticks(12);
        CHECK.same("the one address of the pool is free again", x.address(1), 1);
        CHECK.same("session", x.session(0, 0), 2);
    }

    private static void usersAreNotForgotten() {
        CHECK.begin("but not which users are allowed");
        Tape x = new Tape(1);
        x.allow(0, 5);
        x.restart(5);
        x.allow(3, 6);
        x.restart(5);
        x.restart(4);
        x.ticks(3);
        x.dial(0, 0, 5);
        x.ticks(12);
        CHECK.same("user 0", x.state(0), 3);
        x.hangup(0);
        x.ticks(4);
        x.dial(1, 3, 6);
        x.ticks(12);
        CHECK.same("user 3", x.state(1), 3);
        x.hangup(1);
        x.ticks(4);
        x.dial(2, 1, 5);
        x.ticks(12);
        CHECK.same("user 1", x.state(2), 0);
    }

    private static void packetsOutliveTheRestart() {
        CHECK.begin("what a node sent before its restart is in flight");
        Tape x = Tape.dialled(1);
        x.ticks(2);
        CHECK.kinds(x, 4, 17, 14, 17, 12);
        x.restart(5);
        CHECK.kinds(x, 4, 17, 14, 17, 12);
        CHECK.same("all but OPEN arrive", x.tick(), 4);
        CHECK.same("GRANT arrived", x.circuit(0, 1), 1);
    }

    private static void linksAreNotUsedTwice() {
        CHECK.begin("links are counted by themselves, also over restarts");
        Tape x = new Tape(1);
        for (int link = 1; link <= 12; link++) {
            x.fillUpTo(1, link % 4);
            x.tick();
            CHECK.same("link", x.circuit(link % 4, 0), link);
            x.loseAll();
            if (link % 3 == 0) {
                x.restart(4);
                x.restart(5);
                x.ticks(3);
            }
        }
        CHECK.same("channel", x.channel(4, 0), 0);
        x.fillUpTo(1, 0);
        x.tick();
        CHECK.same("link", x.circuit(0, 0), 13);
        CHECK.same("channel", x.channel(4, 0), 5);
        x.tick();
        CHECK.same("session", x.session(0, 0), 1);
    }

    private static void sessionsAreNotUsedTwice() {
        CHECK.begin("sessions are counted by themselves, also over restarts");
        Tape x = Tape.allOnline(4, 4);
        x.restart(5);
        x.restart(4);
        x.ticks(3);
        for (int s = 0; s < 4; s++) {
            x.hangup(s);
        }
        x.loseAll();
        x.dial(2, 1, 77);
        x.ticks(3);
        CHECK.same("session", x.session(0, 0), 5);
        CHECK.same("link", x.session(0, 1), 5);
        CHECK.same("channel", x.channel(5, 0), 2);
        // A fifth one that is not granted takes no number.
        Tape y = new Tape(1);
        y.fillUpTo(5, 0);
        y.ticks(4);
        CHECK.session(y, 3, 4, 4, 1, 0);
        y.ticks(8);
        CHECK.same("all are gone", y.session(0, 0), 0);
        y.dial(1, 1, 77);
        y.ticks(2);
        CHECK.session(y, 0, 5, 6, 1, 0);
    }

    private static void channelsAreNotUsedTwice() {
        CHECK.begin("channels are counted by themselves, also over restarts and when one breaks");
        Tape x = new Tape(1);
        for (int channel = 1; channel <= 4; channel++) {
            x.dial(0, 1, 77);
            x.tick();
            CHECK.same("channel", x.channel(4, 0), channel);
            x.hangup(0);
            if (channel % 2 == 0) {
                x.restart(4);
                x.lonelyTicks(3);
            } else {
                x.lonelyTicks(29);
            }
            CHECK.same("no channel", x.channel(4, 0), 0);
            x.loseAll();
        }
        CHECK.same("the server had none", x.channel(5, 0), 0);
        x.dial(0, 1, 77);
        x.ticks(2);
        CHECK.same("the server has the fifth", x.channel(5, 0), 5);
        CHECK.session(x, 0, 1, 5, 1, 0);
    }

    // ---- the subscriber

    private static void linkedWhenOff() {
        CHECK.begin("LINKED is ignored when OFF");
        Tape x = Tape.dialled(1);
        x.tick();
        x.loseTo(5);
        CHECK.kinds(x, 2);
        x.hangup(0);
        CHECK.same("it arrives", x.tick(), 1);
        CHECK.same("OFF", x.state(0), 0);
        CHECK.same("no LOGIN", x.count(4), 0);
    }

    private static void linkedInLogin() {
        CHECK.begin("LINKED is ignored in LOGIN");
        Tape x = new Tape(1);
        x.dial(0, 1, 77);
        x.hangup(0);
        x.dial(0, 1, 77);
        x.tick();
        x.loseTo(5);
        CHECK.flight(x, of(2, 4, 0, 1), of(2, 4, 0, 2));
        x.tick();
        CHECK.same("one LOGIN", x.count(4), 1);
        CHECK.packet(x, x.find(4), 4, 0, 4, 1, 1, 77);
        x.hangup(0);
        CHECK.packet(x, x.find(3), 3, 0, 4, 1);
    }

    private static void otherLinkInLogin() {
        CHECK.begin("what it reads has to bear its link: in LOGIN");
        for (int secret = 76; secret <= 77; secret++) {
            Tape x = new Tape(1);
            x.allow(1, 77);
            x.dial(0, 1, secret);
            x.ticks(6);
            x.hangup(0);
            x.dial(0, 1, 77);
            x.tick();
            // ACCEPT, or REFUSE and LEAVE, with link 1, and LINKED with link 2 on their way to it.
            CHECK.same("ACCEPT", x.count(5), secret == 77 ? 1 : 0);
            CHECK.same("REFUSE", x.count(6), secret == 77 ? 0 : 1);
            CHECK.same("LEAVE", x.count(3), secret == 77 ? 0 : 1);
            x.bringForward(2);
            x.loseTo(5);
            x.tick();
            CHECK.same("in LOGIN", x.state(0), 2);
            CHECK.same("no address", x.address(0), 0);
            CHECK.same("no READY", x.count(7), 0);
            CHECK.same("no LEAVE", x.count(3), 0);
            CHECK.packet(x, x.find(4), 4, 0, 4, 2, 1, 77);
        }
    }

    private static void oldLinkWhenJoining() {
        CHECK.begin("what it reads has to bear its link: when JOINING it has none");
        Tape x = Tape.allOnline(1, 1);
        x.core(1, 5);
        x.tick();
        CHECK.kinds(x, 11);
        x.hangup(0);
        x.dial(0, 1, 77);
        x.drop(1);
        x.tick();
        CHECK.same("JOINING", x.state(0), 1);
        CHECK.same("no word", x.heard(0, -1), 0);
        x = refused();
        x.hangup(0);
        x.dial(0, 1, 76);
        x.loseTo(4);
        x.tick();
        CHECK.same("JOINING", x.state(0), 1);
        CHECK.same("no LEAVE", x.count(3), 0);
        x = Tape.dialled(1);
        x.ticks(7);
        CHECK.same("ACCEPT is on its way", x.packet(0, 0), 5);
        x.hangup(0);
        x.dial(0, 1, 77);
        x.loseTo(4);
        x.tick();
        CHECK.same("JOINING", x.state(0), 1);
        CHECK.same("no address", x.address(0), 0);
        CHECK.same("no READY", x.count(7), 0);
    }

    private static void oldLinkWhenOff() {
        CHECK.begin("what it reads has to bear its link: when OFF it has none");
        Tape x = Tape.allOnline(1, 1);
        x.core(1, 5);
        x.tick();
        x.hangup(0);
        x.loseTo(4);
        x.tick();
        CHECK.same("OFF", x.state(0), 0);
        CHECK.same("no word", x.heard(0, -1), 0);
        x = refused();
        x.hangup(0);
        x.loseTo(4);
        x.tick();
        CHECK.same("OFF", x.state(0), 0);
        CHECK.same("no LEAVE", x.count(3), 0);
        x = Tape.dialled(1);
        x.ticks(7);
        x.hangup(0);
        x.loseTo(4);
        x.tick();
        CHECK.same("OFF", x.state(0), 0);
        CHECK.same("no READY", x.count(7), 0);
    }

    /** REFUSE and LEAVE with link 1 are on their way to subscriber 0, which is in LOGIN. */
    private static Tape refused() {
        Tape x = new Tape(1);
        x.allow(1, 77);
        x.dial(0, 1, 76);
        x.ticks(7);
        CHECK.packet(x, 0, 6, 4, 0, 1);
        CHECK.packet(x, 1, 3, 4, 0, 1);
        return x;
    }

    private static void joinAtTheThirdRun() {
        CHECK.begin("at the third run of its timer it sends JOIN again");
        for (int s = 0; s < 4; s++) {
            Tape x = new Tape(1);
            x.dial(s, 1, 77);
            x.lonelyTicks(1);
            CHECK.same("the first run", x.flight(), 0);
            x.lonelyTicks(1);
            CHECK.same("the second run", x.flight(), 0);
            x.lonelyTicks(1);
            CHECK.flight(x, of(1, s, 4));
            x.lonelyTicks(2);
            CHECK.same("the second run after that", x.flight(), 0);
            x.lonelyTicks(1);
            CHECK.flight(x, of(1, s, 4));
        }
    }

    private static void joinFourTimes() {
        CHECK.begin("when JOIN was sent 4 times it gives up");
        Tape x = Tape.dialled(1);
        x.lonelyTicks(6);
        CHECK.kinds(x, 1);
        x.lonelyTicks(3);
        CHECK.kinds(x, 1);
        x.lonelyTicks(2);
        CHECK.same("before the third run", x.state(0), 1);
        x.lonelyTicks(1);
        CHECK.same("OFF", x.state(0), 0);
        CHECK.same("neither JOIN nor LEAVE", x.flight(), 0);
        x.lonelyTicks(3);
        CHECK.same("nothing more", x.flight(), 0);
        joinsFourTimes(x);
    }

    private static void countOfJoinsBeginsAnew() {
        CHECK.begin("when JOIN was sent 4 times (in this state)");
        for (int before = 0; before <= 3; before++) {
            Tape x = Tape.dialled(1);
            x.lonelyTicks(3 * before);
            x.hangup(0);
            joinsFourTimes(x);
        }
        // Nor do the LOGINs of an earlier time count.
        Tape y = Tape.dialled(1);
        y.ticks(2);
        y.lonelyTicks(6);
        CHECK.same("in LOGIN", y.state(0), 2);
        y.hangup(0);
        y.restart(4);
        joinsFourTimes(y);
    }

    /** It is OFF, and when it dials now it sends JOIN after 0, 3, 6, 9 ticks and is OFF after 12. */
    private static void joinsFourTimes(Tape x) {
        x.loseAll();
        x.dial(0, 1, 77);
        CHECK.same("JOINs", x.count(1), 1);
        for (int t = 1; t <= 11; t++) {
            x.lonelyTicks(1);
            CHECK.same("JOINs after " + t, x.count(1), t % 3 == 0 ? 1 : 0);
            CHECK.same("state after " + t, x.state(0), 1);
        }
        x.lonelyTicks(1);
        CHECK.same("OFF", x.state(0), 0);
        CHECK.same("no fifth JOIN", x.count(1), 0);
        CHECK.same("no LEAVE", x.count(3), 0);
    }

    private static void loginAtTheThirdRun() {
        CHECK.begin("at the third run of its timer it sends LOGIN again");
        Tape x = Tape.dialled(1);
        x.tick();
        x.loseTo(5);
        x.tick();
        CHECK.same("LOGIN", x.count(4), 1);
        x.lonelyTicks(1);
        CHECK.same("the second run", x.count(4), 0);
        x.lonelyTicks(1);
        CHECK.packet(x, x.find(4), 4, 0, 4, 1, 1, 77);
        x.lonelyTicks(2);
        CHECK.same("the second run after that", x.count(4), 0);
        x.lonelyTicks(1);
        CHECK.packet(x, x.find(4), 4, 0, 4, 1, 1, 77);
    }

    private static void loginFourTimesInThisState() {
        CHECK.begin("when LOGIN was sent 4 times (in this state) it gives up");
        for (int joins = 1; joins <= 4; joins++) {
            Tape x = Tape.dialled(1);
            x.lonelyTicks(3 * (joins - 1));
            x.ticks(2);
            CHECK.same("in LOGIN", x.state(0), 2);
            int logins = x.count(4);
            for (int t = 1; t <= 10; t++) {
                x.lonelyTicks(1);
                logins += x.count(4);
                CHECK.same("in LOGIN", x.state(0), 2);
                CHECK.same("LEAVE", x.count(3), 0);
            }
            CHECK.same("LOGINs after " + joins + " JOINs", logins, 4);
            x.lonelyTicks(1);
            CHECK.same("OFF", x.state(0), 0);
            CHECK.packet(x, x.find(3), 3, 0, 4, 1);
            CHECK.same("no fifth LOGIN", x.count(4), 0);
        }
    }

    private static void refuseInLogin() {
        CHECK.begin("REFUSE, in LOGIN: it sends LEAVE and is OFF");
        Tape x = refused();
        x.drop(1);
        CHECK.same("in LOGIN", x.state(0), 2);
        x.tick();
        CHECK.same("OFF", x.state(0), 0);
        CHECK.packet(x, 0, 3, 0, 4, 1);
    }

    private static void leaveInLogin() {
        CHECK.begin("LEAVE, in LOGIN: it is OFF");
        Tape x = refused();
        x.drop(0);
        x.tick();
        CHECK.same("OFF", x.state(0), 0);
        CHECK.same("it sends nothing", x.count(3), 0);
    }

    private static void leaveWhenOn() {
        CHECK.begin("LEAVE, when ON: it is OFF");
        Tape x = Tape.allOnline(1, 1);
        // The channel breaks at the access node while words keep the subscriber and its session going.
        x.fillUpTo(1, 1);
        x.tick();
        for (int t = 0; t < 29; t++) {
            x.loseKind(13);
            x.loseKind(12);
            x.core(1, t);
            x.tick();
            CHECK.same("ON", x.state(0), 3);
        }
        CHECK.same("no channel", x.channel(4, 0), 0);
        CHECK.packet(x, x.find(3), 3, 4, 0, 1);
        x.tick();
        CHECK.same("OFF", x.state(0), 0);
        CHECK.same("no address", x.address(0), 0);
        CHECK.same("it sends nothing", x.count(3), 0);
    }

    private static void acceptAgainWhenOn() {
        CHECK.begin("ACCEPT when ON and a is its address: it sends READY again");
        Tape x = Tape.dialled(1);
        x.ticks(9);
        x.loseTo(4);
        x.loseTo(5);
        CHECK.flight(x, of(5, 4, 0, 1, 1));
        CHECK.same("ON already", x.state(0), 3);
        x.tick();
        CHECK.packet(x, 0, 7, 0, 4, 1);
        CHECK.same("ON", x.state(0), 3);
        CHECK.same("its address", x.address(0), 1);
    }

    /** It has just read something that makes QUIET 0: it leaves at the sixteenth run, this tick's being the first. */
    private static void leavesAtTheSixteenthRun(Tape x) {
        for (int run = 2; run <= 15; run++) {
            x.lonelyTicks(1);
            CHECK.same("state at run " + run, x.state(0), 3);
            CHECK.same("LEAVE at run " + run, x.count(3), 0);
        }
        x.lonelyTicks(1);
        CHECK.same("state at run 16", x.state(0), 0);
        CHECK.packet(x, x.find(3), 3, 0, 4, 1);
    }

    private static void quietUpToSixteen() {
        CHECK.begin("QUIET is 0 when it becomes ON; when it is 16, it sends LEAVE and is OFF");
        Tape x = Tape.dialled(1);
        x.ticks(7);
        CHECK.same("in LOGIN", x.state(0), 2);
        x.tick();
        CHECK.same("ON", x.state(0), 3);
        leavesAtTheSixteenthRun(x);
        // QUIET begins anew when it is ON again.
        x.loseAll();
        x.restart(4);
        x.restart(5);
        x.ticks(3);
        x.dial(0, 1, 77);
        x.ticks(8);
        CHECK.same("ON", x.state(0), 3);
        x.lonelyTicks(14);
        CHECK.same("ON", x.state(0), 3);
        x.lonelyTicks(1);
        CHECK.same("OFF", x.state(0), 0);
    }

    private static void quietAfterAcceptEchoDown() {
        CHECK.begin("QUIET is 0 after ACCEPT");
        Tape x = Tape.dialled(1);
        x.ticks(9);
        x.loseTo(4);
        x.loseTo(5);
        x.tick();
        leavesAtTheSixteenthRun(x);
        CHECK.begin("QUIET is 0 after ECHO");
        x = Tape.allOnline(1, 1);
        while (x.find(9) < 0) {
            x.tick();
        }
        CHECK.same("ALIVE of the subscriber", x.packet(x.find(9), 1), 0);
        leavesAtTheSixteenthRun(x);
        CHECK.begin("QUIET is 0 after DOWN");
        x = Tape.allOnline(1, 1);
        x.core(1, 0);
        x.ticks(2);
        CHECK.same("it got the word", x.heard(0, -1), 1);
        leavesAtTheSixteenthRun(x);
    }

    private static void quietIsNotEndedBySending() {
        CHECK.begin("QUIET grows while it sends words and nothing comes back");
        Tape x = Tape.allOnline(1, 1);
        x.send(0, 1, 1);
        x.core(1, 0);
        x.ticks(2);
        CHECK.same("it got the word", x.heard(0, -1), 1);
        // Words keep QUIET of the session below 4, so that no ECHO comes.
        for (int run = 2; run <= 15; run++) {
            CHECK.yes("send", x.send(0, 1, run));
            x.tick();
            CHECK.same("ECHO", x.count(8), 0);
        }
        CHECK.same("ON", x.state(0), 3);
        x.tick();
        CHECK.same("OFF", x.state(0), 0);
        CHECK.same("session", x.session(0, 0), 1);
    }

    // ---- the access node

    private static void joinWithoutCircuit() {
        CHECK.begin("JOIN: when there is no channel, one is begun, with OPEN as its first message");
        Tape x = new Tape(1);
        x.dial(0, 1, 77);
        x.tick();
        CHECK.flight(x, of(2, 4, 0, 1), of(12, 4, 5, 0, 0, 0, 1, 0, 0), of(13, 4, 5, 1, 0, 0, 1, 1, 0));
        x.loseAll();
        x.dial(3, 1, 77);
        x.tick();
        // There is one now: no OPEN but the one that the timer sends again.
        CHECK.flight(x, of(2, 4, 3, 2), of(13, 4, 5, 2, 0, 0, 1, 2, 0), of(12, 4, 5, 0, 0, 0, 1, 0, 0));
        CHECK.channel(x, 4, 1, 3, 0, 1, 4);
    }

    private static void joinWithCircuitWithoutSession() {
        CHECK.begin("JOIN: its circuit is taken down, without a message when it had no session");
        Tape x = new Tape(1);
        x.fillUpTo(2, 0);
        x.tick();
        CHECK.flight(x, of(2, 4, 0, 1), of(12, 4, 5, 0, 0, 0, 1, 0, 0), of(13, 4, 5, 1, 0, 0, 1, 1, 0),
            of(2, 4, 0, 2), of(13, 4, 5, 2, 0, 0, 1, 2, 0));
        CHECK.same("link", x.circuit(0, 0), 2);
    }

    private static void joinWithCircuitWithSession() {
        CHECK.begin("JOIN: its circuit is taken down, with DROP session when it had one");
        Tape x = Tape.allOnline(1, 1);
        x.hangup(0);
        x.dial(0, 1, 77);
        x.loseKind(3);
        int sent = x.channel(5, 2);
        x.tick();
        CHECK.flight(x, of(15, 4, 5, 1, 0, 0, 1, sent, 1), of(2, 4, 0, 2), of(13, 4, 5, 2, 0, 0, 1, sent + 1, 1));
        CHECK.same("link", x.circuit(0, 0), 2);
        CHECK.same("no session yet", x.circuit(0, 1), 0);
        x.tick();
        CHECK.session(x, 0, 2, 2, 1, 0);
        CHECK.same("no other one", x.session(1, 0), 0);
    }

    private static void leaveWithoutSession() {
        CHECK.begin("LEAVE: without a message when the circuit has no session");
        Tape x = Tape.dialled(1);
        x.ticks(2);
        x.hangup(0);
        x.bringForward(3);
        x.loseTo(5);
        x.loseKind(17);
        x.loseKind(14);
        x.loseKind(4);
        CHECK.flight(x, of(3, 0, 4, 1));
        x.tick();
        CHECK.same("no circuit", x.circuit(0, 0), 0);
        CHECK.same("no DROP", x.count(15), 0);
        CHECK.same("OPEN and ASK alone", x.channel(4, 1), 2);
    }

    private static void leaveWithSession() {
        CHECK.begin("LEAVE: with DROP session when the circuit has one");
        Tape x = Tape.allOnline(2, 2);
        x.hangup(1);
        int sent = x.channel(5, 2);
        x.tick();
        CHECK.same("no circuit", x.circuit(1, 0), 0);
        CHECK.same("the other one", x.circuit(0, 0), 1);
        CHECK.flight(x, of(15, 4, 5, 2, 0, 0, 1, sent, 2));
    }

    private static void leaveWithOtherLink() {
        CHECK.begin("LEAVE with another link");
        Tape x = Tape.allOnline(1, 1);
        x.hangup(0);
        x.dial(0, 1, 77);
        x.swap(0);
        x.tick();
        CHECK.same("the new circuit stays", x.circuit(0, 0), 2);
        CHECK.same("one DROP", x.count(15), 1);
        // And UP with the old link is not sent on.
        x = Tape.allOnline(1, 1);
        x.send(0, 1, 5);
        x.hangup(0);
        x.dial(0, 1, 77);
        x.bringForward(1);
        x.tick();
        CHECK.same("UP is ignored", x.count(10), 0);
    }

    private static void loginWithoutSession() {
        CHECK.begin("sent on when the circuit has a session");
        Tape x = Tape.dialled(1);
        x.ticks(2);
        Tape y = x.twin();
        CHECK.kinds(x, 4, 17, 14, 17, 12);
        x.tick();
        CHECK.same("LOGIN before GRANT is not", x.count(4), 0);
        y.bringForward(14);
        y.tick();
        CHECK.packet(y, y.find(4), 4, 4, 5, 1, 1, 77);
    }

    private static void loginWithOtherLink() {
        CHECK.begin("sent on with its circuit's link");
        Tape x = new Tape(1);
        x.allow(1, 77);
        x.fillUpTo(1, 0);
        x.dial(0, 1, 77);
        int withSession = 0;
        for (int t = 0; t < 13; t++) {
            x.tick();
            for (int k = x.flight() - 1; k >= 0; k--) {
                CHECK.no("LOGIN to the server", x.packet(k, 0) == 4 && x.packet(k, 2) == 5);
            }
            withSession += x.circuit(0, 0) == 2 && x.circuit(0, 1) == 2 ? 1 : 0;
        }
        // It took the first link and the circuit has the second, so it logs in in vain.
        CHECK.yes("the circuit had a session", withSession >= 6);
        CHECK.same("OFF", x.state(0), 0);
    }

    private static void downWithoutCircuit() {
        CHECK.begin("sent on for the link of a circuit");
        Tape x = Tape.allOnline(1, 1);
        x.core(1, 5);
        x.hangup(0);
        Tape y = x.twin();
        x.tick();
        CHECK.packet(x, 0, 11, 4, 0, 1, 1, 5);
        y.bringForward(3);
        y.tick();
        CHECK.same("not when it is taken down", y.count(11), 0);
        CHECK.kinds(y, 15);
    }

    private static void grantWithoutCircuit() {
        CHECK.begin("GRANT: when there is no circuit, DROP session is put");
        Tape x = Tape.dialled(1);
        x.ticks(2);
        x.hangup(0);
        x.bringForward(3);
        x.loseKind(12);
        x.tick();
        CHECK.packet(x, x.find(15), 15, 4, 5, 1, 0, 0, 1, 2, 1);
        CHECK.same("no circuit", x.circuit(0, 0), 0);
        CHECK.same("the session is there", x.session(0, 0), 1);
        x.tick();
        CHECK.same("the session is gone", x.session(0, 0), 0);
    }

    private static void dropWithoutCircuit() {
        CHECK.begin("DROP link: nothing when there is no circuit");
        Tape x = new Tape(1);
        x.allow(1, 77);
        x.dial(0, 1, 76);
        x.ticks(6);
        CHECK.kinds(x, 6, 15);
        x.hangup(0);
        x.bringForward(3);
        x.tick();
        // DROP of the session that is gone already, ACK for DROP of the link, which the server sends again.
        CHECK.flight(x, of(15, 4, 5, 1, 0, 0, 1, 2, 1), of(17, 4, 5, 0, 0, 0, 1, 0, 2),
            of(15, 5, 4, 1, 0, 0, 1, 1, 2));
    }

    private static void dropWithCircuit() {
        CHECK.begin("DROP link: the circuit is gone without a message, and LEAVE is sent");
        Tape x = new Tape(1);
        x.allow(1, 77);
        x.dial(0, 1, 76);
        x.ticks(6);
        x.tick();
        CHECK.same("no circuit", x.circuit(0, 0), 0);
        CHECK.packet(x, 1, 3, 4, 0, 1);
        CHECK.same("no message", x.channel(4, 1), 0);
    }

    private static void helloWhenIdleIsTen() {
        CHECK.begin("when IDLE is 10, HELLO is put");
        Tape x = Tape.dialled(1);
        x.ticks(2);
        CHECK.same("messages", x.channel(4, 1), 2);
        for (int idle = 1; idle <= 9; idle++) {
            x.tick();
            CHECK.same("messages when IDLE is " + idle, x.channel(4, 1), 0);
            CHECK.same("HELLO when IDLE is " + idle, x.count(16), 0);
        }
        x.tick();
        CHECK.channel(x, 4, 1, 1, 1, 0, 2);
        CHECK.packet(x, x.find(16), 16, 4, 5, 0, 0, 0, 1, 2, 1);
    }

    private static void helloAgainTenTicksLater() {
        CHECK.begin("and IDLE is 0");
        Tape x = Tape.dialled(1);
        x.ticks(12);
        CHECK.same("HELLO", x.count(16), 1);
        x.tick();
        CHECK.same("it waits for ACK", x.channel(4, 1), 1);
        for (int idle = 1; idle <= 9; idle++) {
            x.tick();
            CHECK.same("messages when IDLE is " + idle, x.channel(4, 1), 0);
        }
        x.tick();
        CHECK.same("HELLO again", x.count(16), 1);
    }

    private static void messageEndsIdle() {
        CHECK.begin("otherwise IDLE becomes 0");
        Tape x = Tape.dialled(2);
        x.ticks(11);
        // IDLE is 9; the JOIN that arrives now puts ASK.
        x.dial(1, 1, 77);
        x.tick();
        CHECK.same("ASK", x.count(13), 1);
        CHECK.same("no HELLO", x.count(16), 0);
        x.tick();
        CHECK.same("messages", x.channel(4, 1), 1);
        for (int idle = 1; idle <= 9; idle++) {
            x.tick();
            CHECK.same("messages when IDLE is " + idle, x.channel(4, 1), 0);
        }
        x.tick();
        CHECK.same("HELLO", x.count(16), 1);
    }

    private static void noHelloWithoutChannel() {
        CHECK.begin("IDLE grows when there is a channel");
        Tape x = Tape.allOnline(1, 1);
        x.restart(4);
        for (int t = 0; t < 40; t++) {
            x.tick();
            CHECK.same("HELLO", x.count(16), 0);
            CHECK.same("messages", x.channel(4, 1), 0);
        }
    }

    private static void brokenChannelEndsAllCircuits() {
        CHECK.begin("when its channel breaks, LEAVE is sent to each subscriber that had one, 0 first");
        for (int without = 0; without < 4; without++) {
            Tape x = Tape.allOnline(4, 4);
            x.hangup(without);
            x.tick();
            for (int t = 0; t < 28; t++) {
                x.loseKind(15);
                for (int address = 1; address <= 4; address++) {
                    x.core(address, t);
                }
                x.tick();
            }
            CHECK.channel(x, 4, 1, 1, 4, 3, 1);
            x.loseAll();
            x.tick();
            CHECK.channel(x, 4, 0, 0, 0, 0, 0);
            int k = 0;
            for (int s = 0; s < 4; s++) {
                CHECK.same("circuit", x.circuit(s, 0), 0);
                if (s != without) {
                    CHECK.packet(x, k, 3, 4, s, s + 1);
                    k++;
                }
            }
            CHECK.same("LEAVEs", x.count(3), 3);
        }
    }
}
