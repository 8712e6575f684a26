/** What the document says under "Terms": runs whose due answers were worked out by hand from its words. */
public final class TermsTest {
    private static final Check CHECK = new Check();

    public static void main(String[] args) {
        joinIsSentFourTimes();
        loginIsSentFourTimes();
        quietSubscriberLeaves();
        quietSessionEnds();
        onlyThreeMessagesAreSent();
        channelBreaksAtTheAccessNode();
        channelBreaksAtTheServer();
        fifthSessionIsDropped();
        newChannelEndsSessions();
        oldLeaveIsIgnored();
        secondLinkedIsIgnored();
        arrivingPacketLeavesRoom();
        upBeforeReadyIsRejected();
        numbersGoOnOverRestarts();
        messagesOutOfOrderWait();
        CHECK.finish();
    }

    private static void joinIsSentFourTimes() {
        CHECK.begin("JOIN is sent 4 times");
        Tape x = new Tape(1);
        x.dial(0, 1, 77);
        for (int t = 1; t <= 11; t++) {
            x.loseAll();
            x.tick();
            CHECK.same("JOIN after tick " + t, x.flight(), t % 3 == 0 ? 1 : 0);
            CHECK.same("state after tick " + t, x.state(0), 1);
        }
        x.tick();
        CHECK.same("OFF", x.state(0), 0);
        CHECK.same("without LEAVE", x.flight(), 0);
        x.dial(0, 1, 77);
        x.loseAll();
        x.ticks(3);
        CHECK.kinds(x, 1);
    }

    private static void loginIsSentFourTimes() {
        CHECK.begin("LOGIN is sent 4 times");
        Tape x = new Tape(1);
        x.dial(0, 1, 77);
        x.tick();
        x.loseTo(5);
        for (int t = 2; t <= 12; t++) {
            x.tick();
            x.loseTo(5);
            boolean sent = t == 2 || t == 4 || t == 7 || t == 10;
            CHECK.same("LOGIN after tick " + t, x.flight(), sent ? 1 : 0);
            CHECK.same("state after tick " + t, x.state(0), 2);
            x.loseAll();
        }
        x.tick();
        CHECK.same("OFF", x.state(0), 0);
        CHECK.same("LEAVE", x.packet(0, 0), 3);
        CHECK.same("with its link", x.packet(0, 3), 1);
    }

    private static void quietSubscriberLeaves() {
        CHECK.begin("QUIET of a subscriber");
        Tape x = Tape.online(4);
        for (int i = 0; i < 14; i++) {
            x.loseAll();
            x.tick();
            CHECK.same("ON", x.state(0), 3);
        }
        x.loseAll();
        x.tick();
        CHECK.same("OFF", x.state(0), 0);
        CHECK.same("LEAVE", x.packet(0, 0), 3);

        x = Tape.online(4);
        x.restart(5);
        int on = 0;
        while (x.state(0) == 3 && on < 100) {
            x.tick();
            on++;
        }
        // It reads the two ACCEPTs that were on their way in the first tick, then nothing more.
        CHECK.same("ticks until it leaves", on, 16);
    }

    private static void quietSessionEnds() {
        CHECK.begin("QUIET of a session");
        Tape x = Tape.online(4);
        x.loseAll();
        CHECK.same("QUIET", x.session(0, 4), 1);
        for (int quiet = 2; quiet <= 11; quiet++) {
            x.tick();
            CHECK.same("QUIET", x.session(0, 4), quiet);
            boolean echo = x.packet(0, 0) == 8 || x.packet(1, 0) == 8;
            CHECK.same("ECHO at " + quiet, echo ? 1 : 0, quiet == 4 || quiet == 8 ? 1 : 0);
            x.loseAll();
        }
        x.tick();
        CHECK.same("gone", x.session(0, 0), 0);
        CHECK.same("its message is there", x.channel(5, 1), 1);
        CHECK.same("WAIT after the timer of the same tick", x.channel(5, 4), 1);
        int last = x.flight() - 1;
        CHECK.same("DROP", x.packet(last, 0), 15);
        CHECK.same("with the link", x.packet(last, 3), 1);
        x.ticks(2);
        CHECK.same("LEAVE reached the subscriber", x.state(0), 0);
        CHECK.same("no circuit", x.circuit(0, 0), 0);
    }

    private static void onlyThreeMessagesAreSent() {
        CHECK.begin("the first three messages");
        Tape x = new Tape(4);
        for (int s = 0; s < 4; s++) {
            x.dial(s, 0, 0);
        }
        x.tick();
        CHECK.same("five messages", x.channel(4, 1), 5);
        CHECK.kinds(x, 2, 12, 13, 2, 13, 2, 2);
        x.tick();
        // A LOGIN for each LINKED, what the server answers to each message, and OPEN again.
        CHECK.kinds(x, 4, 17, 14, 17, 4, 14, 17, 4, 4, 12);
        x.tick();
        // Each acknowledgement brings the next message that waited, before the message is done.
        CHECK.kinds(x, 13, 13, 17, 17, 17, 14);
        CHECK.same("its number", x.packet(0, 7), 3);
        CHECK.same("its number", x.packet(1, 7), 4);
        CHECK.same("two are left", x.channel(4, 1), 2);
        CHECK.same("TRIES begin anew", x.channel(4, 3), 0);
        CHECK.same("WAIT begins anew", x.channel(4, 4), 1);
    }

    private static void channelBreaksAtTheAccessNode() {
        CHECK.begin("the channel breaks at the access node");
        Tape x = new Tape(4);
        x.dial(3, 0, 0);
        x.dial(1, 0, 0);
        x.tick();
        int[] sentAgain = {2, 6, 14};
        int tries = 0;
        for (int t = 2; t <= 29; t++) {
            x.loseAll();
            x.tick();
            if (tries < 3 && sentAgain[tries] == t) {
                tries++;
                CHECK.same("WAIT", x.channel(4, 4), 2 << tries);
                int last = x.flight() - 1;
                CHECK.same("OPEN again", x.packet(last, 0), 12);
            }
            CHECK.same("TRIES after tick " + t, x.channel(4, 3), tries);
            CHECK.same("link of 1", x.circuit(1, 0), 2);
        }
        x.loseAll();
        x.tick();
        CHECK.same("no channel", x.channel(4, 0), 0);
        CHECK.same("no message", x.channel(4, 1), 0);
        CHECK.same("no circuit of 1", x.circuit(1, 0), 0);
        CHECK.same("no circuit of 3", x.circuit(3, 0), 0);
        CHECK.kinds(x, 3, 3);
        CHECK.same("the lower subscriber first", x.packet(0, 2), 1);
        CHECK.same("its link", x.packet(0, 3), 2);
        CHECK.same("then the other", x.packet(1, 2), 3);
        CHECK.same("its link", x.packet(1, 3), 1);
    }

    private static void channelBreaksAtTheServer() {
        CHECK.begin("the channel breaks at the server");
        Tape x = new Tape(4);
        x.dial(0, 0, 0);
        x.ticks(2);
        // GRANT was put in the second tick; the session ends by itself before the channel breaks.
        for (int t = 3; t <= 30; t++) {
            x.loseAll();
            x.tick();
            CHECK.same("channel after tick " + t, x.channel(5, 0), 1);
            CHECK.same("session after tick " + t, x.session(0, 0), t < 13 ? 1 : 0);
        }
        CHECK.same("GRANT and DROP", x.channel(5, 1), 2);
        x.loseAll();
        x.tick();
        CHECK.same("no channel", x.channel(5, 0), 0);
        CHECK.same("no message", x.channel(5, 1), 0);
        CHECK.same("expects 0", x.channel(5, 2), 0);
    }

    private static void fifthSessionIsDropped() {
        CHECK.begin("a fifth session");
        Tape x = new Tape(4);
        x.allow(0, 5);
        x.dial(0, 0, 5);
        x.hangup(0);
        for (int s = 0; s < 4; s++) {
            x.dial(s, 0, 5);
        }
        x.ticks(4);
        for (int k = 0; k < 4; k++) {
            CHECK.same("session number", x.session(k, 0), k + 1);
            CHECK.same("session link", x.session(k, 1), k + 1);
        }
        CHECK.same("the circuit of 3", x.circuit(3, 0), 5);
        x.ticks(4);
        CHECK.same("3 was told to leave", x.state(3), 0);
        CHECK.same("its circuit is gone", x.circuit(3, 0), 0);
        // Link 1 had no circuit any more when its GRANT came, so its session was dropped.
        for (int k = 0; k < 3; k++) {
            CHECK.same("session number", x.session(k, 0), k + 2);
        }
        CHECK.same("no fourth one", x.session(3, 0), 0);
    }

    private static void newChannelEndsSessions() {
        CHECK.begin("a new channel");
        Tape x = Tape.online(4);
        x.restart(4);
        x.ticks(3);
        x.dial(1, 1, 77);
        x.tick();
        CHECK.same("the old session is there", x.session(0, 0), 1);
        CHECK.same("the new channel at the access node", x.channel(4, 0), 2);
        CHECK.same("the old one at the server", x.channel(5, 0), 1);
        x.tick();
        CHECK.same("the new channel at the server", x.channel(5, 0), 2);
        CHECK.same("the new session alone", x.session(0, 0), 2);
        CHECK.same("the new session alone", x.session(1, 0), 0);
        CHECK.same("of link 2", x.session(0, 1), 2);
        CHECK.same("two messages were done", x.channel(5, 2), 2);
    }

    private static void oldLeaveIsIgnored() {
        CHECK.begin("LEAVE with an old link");
        Tape x = Tape.online(4);
        x.loseAll();
        x.hangup(0);
        x.dial(0, 1, 77);
        x.swap(0);
        x.tick();
        CHECK.same("the new circuit", x.circuit(0, 0), 2);
        CHECK.kinds(x, 15, 2, 13);
        CHECK.same("DROP of the old session", x.packet(0, 3), 1);
        x.tick();
        CHECK.same("the new session", x.session(0, 0), 2);
        CHECK.same("alone", x.session(1, 0), 0);
    }

    private static void secondLinkedIsIgnored() {
        CHECK.begin("LINKED in LOGIN");
        Tape x = new Tape(1);
        x.dial(0, 1, 77);
        x.hangup(0);
        x.dial(0, 1, 77);
        x.tick();
        CHECK.kinds(x, 2, 12, 13, 2, 13);
        x.loseTo(5);
        x.tick();
        x.loseTo(5);
        CHECK.kinds(x, 4);
        CHECK.same("the first link", x.packet(0, 3), 1);
        x.hangup(0);
        x.tick();
        CHECK.same("LEAVE 1 is not of the circuit", x.circuit(0, 0), 2);
    }

    private static void arrivingPacketLeavesRoom() {
        CHECK.begin("40 in flight at a tick");
        Tape x = new Tape(1);
        for (int i = 0; i < 40; i++) {
            x.dial(i % 4, 1, 77);
            x.hangup(i % 4);
        }
        CHECK.same("flight()", x.flight(), 40);
        CHECK.same("tick()", x.tick(), 40);
        CHECK.same("flight()", x.flight(), 40);
        for (int k = 0; k < 40; k++) {
            CHECK.same("LINKED", x.packet(k, 0), 2);
            CHECK.same("its link", x.packet(k, 3), k + 1);
        }
        CHECK.same("OPEN and the ASKs", x.channel(4, 1), 41);
        CHECK.same("tick()", x.tick(), 40);
        CHECK.kinds(x, 12);
    }

    private static void upBeforeReadyIsRejected() {
        CHECK.begin("UP in an ACCEPTED session");
        Tape x = new Tape(1);
        x.allow(1, 77);
        x.dial(0, 1, 77);
        x.ticks(8);
        CHECK.kinds(x, 7, 4, 5);
        x.send(0, 1, 5);
        x.drop(0);
        x.ticks(2);
        CHECK.same("ACCEPTED", x.session(0, 2), 2);
        CHECK.same("rejected", x.cored(-2), 1);
        CHECK.same("the core got nothing", x.cored(-1), 0);
        x.ticks(3);
        CHECK.same("OPEN after READY was sent again", x.session(0, 2), 3);
    }

    private static void numbersGoOnOverRestarts() {
        CHECK.begin("numbers go on over restarts");
        Tape x = Tape.online(4);
        x.hangup(0);
        x.restart(4);
        x.restart(5);
        x.ticks(3);
        x.dial(0, 1, 77);
        x.ticks(3);
        CHECK.same("link", x.circuit(0, 0), 2);
        CHECK.same("session", x.circuit(0, 1), 2);
        CHECK.same("channel", x.channel(4, 0), 2);
    }

    private static void messagesOutOfOrderWait() {
        CHECK.begin("a message that is not the expected one");
        Tape x = new Tape(1);
        x.dial(0, 1, 77);
        x.dial(1, 1, 77);
        x.tick();
        CHECK.kinds(x, 2, 12, 13, 2, 13);
        x.swap(3);
        x.swap(2);
        CHECK.same("ASK 2 is before ASK 1", x.packet(2, 3), 2);
        x.tick();
        CHECK.same("ASK 1 alone was done", x.session(0, 1), 1);
        CHECK.same("ASK 1 alone was done", x.session(1, 0), 0);
        CHECK.same("the server expects ASK 2", x.channel(5, 2), 2);
        // LOGIN, ACK of OPEN, ACK of the one that was not expected, GRANT, ACK, LOGIN, OPEN again.
        CHECK.kinds(x, 4, 17, 17, 14, 17, 4, 12);
        CHECK.same("this ACK asks for ASK 1", x.packet(2, 8), 1);
    }
}
