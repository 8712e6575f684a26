/**
 * The sentences under "Terms" about the server and the two ends of the channel that name a boundary case:
 * each has a test at it and on both sides.
 */
public final class ChannelBoundsTest {
    private static final Check CHECK = new Check();

    private ChannelBoundsTest() {
    }

    public static void main(String[] args) {
        fourSessionsAndNoMore();
        sessionAfterOneIsGone();
        dropOfNoSession();
        unknownSessionIsIgnored();
        loginNeedsUserAndSecret();
        loginNeedsAFreeAddress();
        lowestFreeAddress();
        refusedSessionIsGone();
        loginWhenAccepted();
        readyWhenAccepted();
        upWhenAccepted();
        upWhenOpen();
        quietOfAWaitingSession();
        quietOfAnAcceptedSession();
        quietOfAnOpenSession();
        quietIsZeroAfterLogin();
        quietIsZeroAfterReady();
        quietIsZeroAfterUp();
        quietIsZeroAfterAlive();
        lowestNumberFirst();
        brokenChannelEndsSessions();
        newChannelEndsSessions();
        openAgainIsNoNewChannel();
        openAfterTheServerForgot();
        otherMessagesBeginNoChannel();
        otherChannelAtTheAccessNode();
        otherChannelAtTheServer();
        noChannelAtTheAccessNode();
        firstThreeAreSent();
        fourthIsSentWhenOneIsAcknowledged();
        allThreeAreAcknowledgedAtOnce();
        onlyLowerNumbersAreAcknowledged();
        nothingAcknowledgedChangesNothing();
        everyMessageAcknowledges();
        messageWithHigherNumber();
        messageWithLowerNumber();
        ackIsNotAnswered();
        putWhenNoOtherIsThere();
        putWhenAnotherIsThere();
        waitAndTriesAtTheAccessNode();
        waitAndTriesAtTheServer();
        onlyTheFirstIsSentAgain();
        sentAgainWithTheNumbersAsTheyAreThen();
        acknowledgedAtTheLastMoment();
        brokenEndBeginsAnew();
        CHECK.finish();
    }

    private static int[] of(int... fields) {
        return fields;
    }

    private static int sessions(Tape x) {
        int count = 0;
        while (count < 4 && x.session(count, 0) != 0) {
            count++;
        }
        return count;
    }

    // ---- the sessions

    private static void fourSessionsAndNoMore() {
        CHECK.begin("ASK: when there are 4 sessions, DROP link is put");
        for (int joins = 1; joins <= 6; joins++) {
            Tape x = new Tape(4);
            x.fillUpTo(joins, 0);
            for (int t = 0; t < 6; t++) {
                x.tick();
                loseMessagesOfTheServer(x);
            }
            // No GRANT arrived, so no session was dropped because its circuit is gone.
            CHECK.same("sessions after " + joins, sessions(x), Math.min(4, joins));
            CHECK.same("messages after " + joins, x.channel(5, 1), joins);
        }
        // Subscriber 0 joins twice before its first GRANT: its second ASK is the second, that of 3 the fifth.
        Tape y = new Tape(4);
        y.fillUpTo(1, 0);
        for (int s = 0; s < 4; s++) {
            y.dial(s, 1, 77);
        }
        y.ticks(3);
        CHECK.same("sessions", sessions(y), 2);
        y.tick();
        CHECK.same("sessions", sessions(y), 4);
        CHECK.session(y, 3, 4, 4, 1, 0, 1);
        int k = y.find(15);
        CHECK.packet(y, k, 15, 5, 4, 5, 0, 0, 1, 4, 6);
        y.tick();
        CHECK.packet(y, y.find(3), 3, 4, 3, 5);
        CHECK.same("no circuit", y.circuit(3, 0), 0);
    }

    private static void loseMessagesOfTheServer(Tape x) {
        for (int k = x.flight() - 1; k >= 0; k--) {
            boolean message = x.packet(k, 0) == 14 || x.packet(k, 0) == 15;
            if (message && x.packet(k, 1) == 5) {
                x.drop(k);
            }
        }
    }

    private static void sessionAfterOneIsGone() {
        CHECK.begin("ASK: otherwise a session with the next number is there");
        Tape x = Tape.allOnline(4, 4);
        CHECK.same("sessions", sessions(x), 4);
        int number = x.channel(5, 2);
        x.hangup(1);
        x.ticks(2);
        CHECK.same("sessions", sessions(x), 3);
        x.dial(1, 0, 0);
        x.ticks(2);
        CHECK.same("sessions", sessions(x), 4);
        CHECK.session(x, 3, 5, 5, 1, 0, 1);
        CHECK.packet(x, x.find(14), 14, 5, 4, 5, 5, 0, 1, 4, number + 2);
    }

    private static void dropOfNoSession() {
        CHECK.begin("DROP session: nothing when there is none");
        Tape x = Tape.allOnline(4, 1);
        x.dial(1, 1, 76);
        x.ticks(6);
        CHECK.same("REFUSE", x.count(6), 1);
        CHECK.same("the session of link 2 is gone", sessions(x), 1);
        x.hangup(1);
        x.bringForward(3);
        x.tick();
        CHECK.packet(x, 0, 15, 4, 5, 2, 0, 0, 1, x.channel(5, 2), 2);
        x.tick();
        CHECK.same("session 1 stays", x.session(0, 0), 1);
        CHECK.same("it alone", sessions(x), 1);
        x.tick();
        CHECK.same("and is acknowledged", x.channel(4, 1), 0);
    }

    private static void unknownSessionIsIgnored() {
        CHECK.begin("packets that bear no session's number are ignored");
        Tape x = Tape.allOnline(2, 2);
        x.send(1, 2, 5);
        x.send(1, 1, 6);
        x.hangup(1);
        Tape y = x.twin();
        x.ticks(2);
        CHECK.same("words before DROP", x.cored(-1), 1);
        CHECK.same("rejected before DROP", x.cored(-2), 1);
        y.tick();
        CHECK.kinds(y, 10, 10, 15);
        y.bringForward(15);
        y.tick();
        CHECK.same("words behind DROP", y.cored(-1), 0);
        CHECK.same("rejected behind DROP", y.cored(-2), 0);
        CHECK.same("the other session", sessions(y), 1);
    }

    private static void loginNeedsUserAndSecret() {
        CHECK.begin("LOGIN: when the user is one that is allowed, with this secret");
        for (int user = -1; user <= 4; user++) {
            for (int secret = 4; secret <= 8; secret++) {
                Tape x = new Tape(4);
                x.allow(0, 5);
                x.allow(3, 7);
                x.dial(2, user, secret);
                x.ticks(6);
                boolean in = user == 0 && secret == 5 || user == 3 && secret == 7;
                CHECK.same("ACCEPT of " + user + ", " + secret, x.count(5), in ? 1 : 0);
                CHECK.same("REFUSE of " + user + ", " + secret, x.count(6), in ? 0 : 1);
                CHECK.same("sessions", sessions(x), in ? 1 : 0);
            }
        }
    }

    private static void loginNeedsAFreeAddress() {
        CHECK.begin("LOGIN: and an address is free");
        for (int pool = 1; pool <= 4; pool++) {
            for (int before = 0; before < 4; before++) {
                Tape x = Tape.allOnline(pool, before);
                x.loseAll();
                x.dial(3, 1, 77);
                boolean free = before < pool;
                int seen = 0;
                for (int t = 0; t < 9 && seen == 0; t++) {
                    x.tick();
                    seen = x.count(5) + x.count(6);
                }
                int kind = free ? 5 : 6;
                int link = before + 1;
                CHECK.packet(x, x.find(kind), kind, 5, 4, link, free ? before + 1 : 0);
                CHECK.same("sessions with pool " + pool, sessions(x), free ? before + 1 : pool);
            }
        }
    }

    private static void lowestFreeAddress() {
        CHECK.begin("LOGIN: the lowest free address");
        for (int gone = 0; gone < 16; gone++) {
            Tape x = Tape.allOnline(4, 4);
            int lowest = 0;
            for (int s = 3; s >= 0; s--) {
                if ((gone >> s & 1) == 1) {
                    x.hangup(s);
                    lowest = s + 1;
                }
            }
            if (lowest == 0) {
                continue;
            }
            x.ticks(4);
            x.dial(lowest - 1, 1, 77);
            x.ticks(9);
            CHECK.same("address when " + gone + " are gone", x.address(lowest - 1), lowest);
        }
        // Not the address that was free the longest, nor that of its own earlier session.
        Tape y = Tape.allOnline(4, 4);
        y.hangup(3);
        y.ticks(3);
        y.hangup(1);
        y.ticks(3);
        y.dial(3, 1, 77);
        y.ticks(12);
        CHECK.same("address", y.address(3), 2);
    }

    private static void refusedSessionIsGone() {
        CHECK.begin("LOGIN: otherwise REFUSE is sent, the session is gone, and DROP link is put");
        Tape x = new Tape(1);
        x.dial(0, 1, 77);
        x.ticks(5);
        CHECK.session(x, 0, 1, 1, 1, 0);
        x.tick();
        CHECK.flight(x, of(6, 5, 4, 1), of(15, 5, 4, 1, 0, 0, 1, 1, 2));
        CHECK.same("sessions", sessions(x), 0);
        CHECK.channel(x, 5, 1, 1, 2, 0, 1);
    }

    private static void loginWhenAccepted() {
        CHECK.begin("LOGIN, when ACCEPTED: ACCEPT is sent again");
        Tape x = Tape.dialled(4);
        x.ticks(8);
        x.loseTo(4);
        CHECK.flight(x, of(4, 4, 5, 1, 1, 77));
        x.tick();
        CHECK.packet(x, x.find(5), 5, 5, 4, 1, 1);
        CHECK.session(x, 0, 1, 1, 2, 1, 1);
        // Also when the secret is another one by now.
        Tape y = Tape.dialled(4);
        y.ticks(8);
        y.loseTo(4);
        y.allow(1, 78);
        y.tick();
        CHECK.packet(y, y.find(5), 5, 5, 4, 1, 1);
        CHECK.same("no REFUSE", y.count(6), 0);
    }

    private static void readyWhenAccepted() {
        CHECK.begin("READY, when ACCEPTED: it is OPEN");
        Tape x = Tape.dialled(1);
        x.ticks(9);
        CHECK.session(x, 0, 1, 1, 2, 1);
        CHECK.packet(x, 0, 7, 4, 5, 1);
        Tape y = x.twin();
        x.tick();
        CHECK.session(x, 0, 1, 1, 3, 1, 1);
        y.drop(0);
        y.tick();
        CHECK.session(y, 0, 1, 1, 2, 1, 2);
        // A second READY changes nothing but QUIET.
        x.ticks(2);
        CHECK.session(x, 0, 1, 1, 3, 1, 1);
    }

    private static void upWhenAccepted() {
        CHECK.begin("UP, otherwise: REJECTED");
        Tape x = Tape.dialled(1);
        x.ticks(8);
        x.send(0, 1, 5);
        x.loseKind(7);
        x.tick();
        CHECK.packet(x, x.find(10), 10, 4, 5, 1, 1, 5);
        x.tick();
        CHECK.same("state", x.session(0, 2), 2);
        CHECK.same("rejected", x.cored(-2), 1);
        CHECK.same("words", x.cored(-1), 0);
        Tape y = Tape.dialled(1);
        y.ticks(8);
        y.send(0, 1, 5);
        y.ticks(2);
        CHECK.same("behind READY", y.cored(-1), 1);
        CHECK.same("behind READY", y.cored(-2), 0);
    }

    private static void upWhenOpen() {
        CHECK.begin("UP, when OPEN: when the source is its address");
        for (int s = 0; s < 4; s++) {
            for (int source = 0; source <= 5; source++) {
                Tape x = Tape.allOnline(4, 4);
                x.send(s, source, 50 + source);
                x.ticks(2);
                boolean own = source == s + 1;
                CHECK.same("words of " + s + " from " + source, x.cored(-1), own ? 1 : 0);
                CHECK.same("word", x.cored(0), own ? 50 + source : 0);
                CHECK.same("source", x.source(0), own ? source : 0);
                CHECK.same("rejected", x.cored(-2), own ? 0 : 1);
            }
        }
    }

    /** QUIET is as told now; what the session sends at each timer until it is gone, every so many. */
    private static void sendsUntilTwelve(Tape x, int quiet, int kind, int every) {
        CHECK.same("QUIET", x.session(0, 4), quiet);
        for (int q = quiet + 1; q <= 11; q++) {
            x.lonelyTicks(1);
            CHECK.same("QUIET", x.session(0, 4), q);
            CHECK.same("ACCEPT when QUIET is " + q, x.count(5), kind == 5 && q % every == 0 ? 1 : 0);
            CHECK.same("ECHO when QUIET is " + q, x.count(8), kind == 8 && q % every == 0 ? 1 : 0);
            CHECK.same("DROP when QUIET is " + q, x.count(15), 0);
        }
        x.lonelyTicks(1);
        CHECK.same("sessions when QUIET is 12", sessions(x), 0);
        CHECK.same("ACCEPT when QUIET is 12", x.count(5), 0);
        CHECK.same("ECHO when QUIET is 12", x.count(8), 0);
        CHECK.same("DROP when QUIET is 12", x.count(15), 1);
        CHECK.same("its link", x.packet(x.find(15), 3), 1);
        CHECK.channel(x, 5, 1, 1, x.channel(5, 2), 0, 1);
    }

    private static void quietOfAWaitingSession() {
        CHECK.begin("QUIET of a session that is WAITING");
        Tape x = Tape.dialled(1);
        x.ticks(4);
        CHECK.same("WAITING", x.session(0, 2), 1);
        sendsUntilTwelve(x, 3, 0, 1);
    }

    private static void quietOfAnAcceptedSession() {
        CHECK.begin("QUIET of a session that is ACCEPTED: a multiple of 3");
        Tape x = Tape.dialled(1);
        x.ticks(6);
        CHECK.same("ACCEPTED", x.session(0, 2), 2);
        sendsUntilTwelve(x, 1, 5, 3);
    }

    private static void quietOfAnOpenSession() {
        CHECK.begin("QUIET of a session that is OPEN: a multiple of 4");
        Tape x = Tape.dialled(1);
        x.ticks(10);
        CHECK.same("OPEN", x.session(0, 2), 3);
        sendsUntilTwelve(x, 1, 8, 4);
    }

    private static void quietIsZeroAfterLogin() {
        CHECK.begin("first its QUIET becomes 0: LOGIN");
        Tape x = Tape.dialled(1);
        x.ticks(5);
        CHECK.same("QUIET", x.session(0, 4), 4);
        x.tick();
        CHECK.session(x, 0, 1, 1, 2, 1, 1);
        x.ticks(2);
        CHECK.same("QUIET", x.session(0, 4), 3);
        x.tick();
        CHECK.session(x, 0, 1, 1, 2, 1, 1);
    }

    private static void quietIsZeroAfterReady() {
        CHECK.begin("first its QUIET becomes 0: READY");
        Tape x = Tape.dialled(1);
        x.ticks(8);
        x.loseTo(5);
        x.tick();
        CHECK.session(x, 0, 1, 1, 2, 1, 4);
        x.tick();
        CHECK.session(x, 0, 1, 1, 3, 1, 1);
    }

    private static void quietIsZeroAfterUp() {
        CHECK.begin("first its QUIET becomes 0: UP, also when it is rejected");
        for (int source = 1; source <= 2; source++) {
            Tape x = Tape.allOnline(2, 2);
            x.send(0, source, 5);
            x.tick();
            int quiet = x.session(0, 4);
            int other = x.session(1, 4);
            CHECK.yes("QUIET", quiet > 1);
            x.tick();
            CHECK.same("QUIET", x.session(0, 4), 1);
            CHECK.same("QUIET of the other one", x.session(1, 4), other + 1);
        }
    }

    private static void quietIsZeroAfterAlive() {
        CHECK.begin("first its QUIET becomes 0: ALIVE");
        Tape x = Tape.allOnline(1, 1);
        int most = 0;
        for (int t = 0; t < 40; t++) {
            x.tick();
            most = Math.max(most, x.session(0, 4));
            boolean alive = x.find(9) >= 0 && x.packet(x.find(9), 2) == 5;
            if (alive) {
                x.tick();
                CHECK.same("QUIET", x.session(0, 4), 1);
            }
        }
        CHECK.same("the most that QUIET was", most, 7);
        CHECK.same("ON", x.state(0), 3);
    }

    private static void lowestNumberFirst() {
        CHECK.begin("for each session, the lowest number first");
        Tape x = Tape.allOnline(4, 4);
        int[] links = new int[4];
        int found = 0;
        for (int t = 0; t < 12 && found == 0; t++) {
            x.lonelyTicks(1);
            for (int k = 0; k < x.flight(); k++) {
                if (x.packet(k, 0) == 8) {
                    links[found] = x.packet(k, 3);
                    found++;
                }
            }
        }
        CHECK.same("ECHOs", found, 4);
        for (int k = 0; k < 4; k++) {
            CHECK.same("link of ECHO " + k, links[k], k + 1);
        }
        while (sessions(x) == 4) {
            x.lonelyTicks(1);
        }
        CHECK.same("all are gone at once", sessions(x), 0);
        CHECK.same("DROPs are put", x.channel(5, 1), 4);
        CHECK.same("and three are sent", x.count(15), 3);
        for (int k = 0; k < 3; k++) {
            CHECK.same("link of DROP " + k, x.packet(x.find(15) + k, 3), k + 1);
        }
    }

    private static void brokenChannelEndsSessions() {
        CHECK.begin("when its channel breaks, all sessions are gone (without messages)");
        Tape x = Tape.allOnline(2, 1);
        x.dial(1, 1, 77);
        x.ticks(2);
        CHECK.same("GRANT", x.count(14), 1);
        // Nothing of the channel arrives any more, but words keep session 1.
        for (int t = 0; t < 28; t++) {
            loseChannel(x);
            x.core(1, t);
            if (x.state(0) == 3) {
                x.send(0, 1, t);
            }
            x.tick();
            CHECK.same("session 1", x.session(0, 0), 1);
        }
        CHECK.channel(x, 5, 1, 2, x.channel(5, 2), 3, 1);
        loseChannel(x);
        x.tick();
        CHECK.channel(x, 5, 0, 0, 0, 0, 0);
        CHECK.same("sessions", sessions(x), 0);
        loseChannel(x);
        x.tick();
        CHECK.same("nothing of the channel", x.count(14) + x.count(15), 0);
        CHECK.no("core", x.core(1, 5));
    }

    private static void loseChannel(Tape x) {
        for (int k = x.flight() - 1; k >= 0; k--) {
            if (x.packet(k, 0) >= 12) {
                x.drop(k);
            }
        }
    }

    /** Channel 2 begins at the access node while the server has channel 1 and the OPEN session 1. */
    private static Tape secondChannel() {
        Tape x = Tape.allOnline(2, 1);
        x.restart(4);
        x.lonelyTicks(3);
        x.loseAll();
        x.dial(1, 1, 77);
        x.tick();
        CHECK.same("channel at 4", x.channel(4, 0), 2);
        CHECK.same("channel at 5", x.channel(5, 0), 1);
        CHECK.session(x, 0, 1, 1, 3, 1);
        return x;
    }

    private static void newChannelEndsSessions() {
        CHECK.begin("when a new one begins, all sessions are gone (without messages)");
        Tape x = secondChannel();
        x.loseKind(13);
        x.loseKind(8);
        x.tick();
        CHECK.channel(x, 5, 2, 0, 1, 0, 0);
        CHECK.same("sessions", sessions(x), 0);
        CHECK.packet(x, x.find(17), 17, 5, 4, 0, 0, 0, 2, 0, 1);
        CHECK.same("no DROP", x.count(15), 0);
        // Messages of the old channel that still waited are there no more.
        Tape y = Tape.dialled(1);
        y.ticks(2);
        y.loseAll();
        y.restart(4);
        y.lonelyTicks(3);
        CHECK.channel(y, 5, 1, 1, 2, 1, 2);
        y.hangup(0);
        y.loseAll();
        y.dial(1, 1, 77);
        y.tick();
        y.loseKind(13);
        y.tick();
        CHECK.channel(y, 5, 2, 0, 1, 0, 0);
    }

    private static void openAgainIsNoNewChannel() {
        CHECK.begin("OPEN with the same channel number: no new channel");
        Tape x = Tape.dialled(1);
        x.ticks(2);
        x.loseTo(4);
        CHECK.packet(x, 0, 12, 4, 5, 0, 0, 0, 1, 0, 0);
        x.tick();
        CHECK.channel(x, 5, 1, 1, 2, 1, 4);
        CHECK.session(x, 0, 1, 1, 1, 0, 2);
        CHECK.packet(x, x.find(17), 17, 5, 4, 0, 0, 0, 1, 0, 2);
    }

    private static void openAfterTheServerForgot() {
        CHECK.begin("OPEN with a higher channel number than the server's end has (0 for none)");
        Tape x = Tape.dialled(1);
        x.ticks(2);
        x.loseTo(4);
        x.restart(5);
        x.ticks(3);
        CHECK.channel(x, 5, 0, 0, 0, 0, 0);
        CHECK.channel(x, 4, 1, 2, 0, 1, 1);
        x.tick();
        CHECK.same("OPEN again", x.count(12), 1);
        x.loseTo(4);
        x.tick();
        CHECK.channel(x, 5, 1, 0, 1, 0, 0);
    }

    private static void otherMessagesBeginNoChannel() {
        CHECK.begin("another message with a higher channel number is ignored");
        Tape x = secondChannel();
        x.loseKind(12);
        CHECK.same("ASK", x.count(13), 1);
        x.tick();
        CHECK.same("channel at 5", x.channel(5, 0), 1);
        CHECK.same("session", x.session(0, 0), 1);
        CHECK.same("it alone", sessions(x), 1);
        CHECK.same("no ACK", x.count(17), 0);
        Tape y = Tape.dialled(1);
        y.tick();
        y.loseKind(12);
        y.tick();
        CHECK.channel(y, 5, 0, 0, 0, 0, 0);
        CHECK.same("no ACK", y.count(17), 0);
    }

    private static void otherChannelAtTheAccessNode() {
        CHECK.begin("when the channel number is not that of the end, it is ignored: at the access node");
        Tape x = Tape.allOnline(2, 1);
        x.restart(4);
        while (x.session(0, 4) < 11) {
            x.lonelyTicks(1);
        }
        x.loseAll();
        x.dial(1, 1, 77);
        x.tick();
        CHECK.kinds(x, 2, 12, 13, 15);
        CHECK.packet(x, 3, 15, 5, 4, 1, 0, 0, 1, 1, x.channel(5, 2));
        x.loseTo(5);
        x.loseTo(1);
        x.tick();
        CHECK.same("no ACK", x.count(17), 0);
        CHECK.channel(x, 4, 2, 2, 0, 1, 4);
        CHECK.same("circuit", x.circuit(1, 0), 2);
    }

    private static void otherChannelAtTheServer() {
        CHECK.begin("when the channel number is not that of the end, it is ignored: at the server");
        Tape x = Tape.allOnline(2, 1);
        x.dial(1, 1, 77);
        x.tick();
        CHECK.same("ASK", x.count(13), 1);
        x.restart(5);
        x.loseAll();
        x.ticks(5);
        CHECK.same("ASK again", x.count(13), 1);
        CHECK.channel(x, 5, 0, 0, 0, 0, 0);
        x.loseTo(4);
        CHECK.same("it arrives", x.tick(), 1);
        CHECK.channel(x, 5, 0, 0, 0, 0, 0);
        CHECK.same("no ACK", x.count(17), 0);
        CHECK.same("sessions", sessions(x), 0);
    }

    private static void noChannelAtTheAccessNode() {
        CHECK.begin("when the channel number is not that of the end, it is ignored: no channel");
        Tape x = Tape.allOnline(2, 1);
        x.restart(4);
        while (sessions(x) == 1) {
            x.lonelyTicks(1);
        }
        CHECK.kinds(x, 15);
        CHECK.same("DROP arrives", x.tick(), 1);
        CHECK.same("no ACK", x.count(17), 0);
        CHECK.channel(x, 4, 0, 0, 0, 0, 0);
    }

    // ---- the ends of the channel

    private static void firstThreeAreSent() {
        CHECK.begin("the first three of them, or as many as there are, are SENT");
        for (int joins = 1; joins <= 4; joins++) {
            Tape x = new Tape(4);
            x.fillUpTo(joins, 1);
            x.tick();
            CHECK.same("messages", x.channel(4, 1), joins + 1);
            CHECK.same("OPEN", x.count(12), 1);
            CHECK.same("ASK of " + joins, x.count(13), Math.min(2, joins));
        }
    }

    /** OPEN and four ASKs were put at the access node, three of which are on their way. */
    private static Tape fiveMessages() {
        Tape x = new Tape(4);
        for (int s = 0; s < 4; s++) {
            x.dial(s, 1, 77);
        }
        x.tick();
        for (int s = 0; s < 4; s++) {
            x.loseTo(s);
        }
        CHECK.kinds(x, 12, 13, 13);
        return x;
    }

    private static void fourthIsSentWhenOneIsAcknowledged() {
        CHECK.begin("the others wait until they are among the first three");
        Tape x = fiveMessages();
        x.drop(2);
        x.drop(1);
        x.tick();
        CHECK.kinds(x, 17, 12);
        x.loseTo(5);
        CHECK.packet(x, 0, 17, 5, 4, 0, 0, 0, 1, 0, 1);
        x.tick();
        // OPEN is acknowledged: of the first three now, 1, 2, 3, the last was not sent yet.
        CHECK.packet(x, 0, 13, 4, 5, 3, 0, 0, 1, 3, 0);
        CHECK.same("no other ASK", x.count(13), 1);
        CHECK.channel(x, 4, 1, 4, 0, 0, 1);
    }

    private static void allThreeAreAcknowledgedAtOnce() {
        CHECK.begin("those that are among the first three now and were not sent are sent");
        Tape x = fiveMessages();
        x.tick();
        CHECK.kinds(x, 17, 14, 17, 14, 17, 12);
        // The last ACK alone arrives: it tells that 3 is expected.
        x.drop(5);
        for (int k = 0; k < 4; k++) {
            x.drop(0);
        }
        CHECK.packet(x, 0, 17, 5, 4, 0, 0, 0, 1, 0, 3);
        x.tick();
        CHECK.packet(x, 0, 13, 4, 5, 3, 0, 0, 1, 3, 0);
        CHECK.packet(x, 1, 13, 4, 5, 4, 0, 0, 1, 4, 0);
        CHECK.channel(x, 4, 1, 2, 0, 0, 1);
        CHECK.same("ASKs", x.count(13), 2);
    }

    private static void onlyLowerNumbersAreAcknowledged() {
        CHECK.begin("the messages with lower numbers than the one that the other end expected");
        for (int arrive = 0; arrive <= 3; arrive++) {
            Tape x = fiveMessages();
            for (int k = 2; k >= arrive; k--) {
                x.drop(k);
            }
            x.tick();
            x.loseTo(5);
            x.tick();
            CHECK.same("messages when " + arrive + " arrived", x.channel(4, 1), 5 - arrive);
        }
    }

    private static void nothingAcknowledgedChangesNothing() {
        CHECK.begin("when there were some, TRIES is 0, WAIT is 2");
        Tape x = Tape.allOnline(4, 1);
        int number = x.channel(5, 2);
        x.dial(1, 1, 77);
        x.dial(2, 1, 77);
        x.tick();
        x.drop(x.find(13));
        CHECK.channel(x, 4, 1, 2, 1, 0, 1);
        x.tick();
        // The second ASK was not the expected one; the first is sent again.
        CHECK.packet(x, x.find(17), 17, 5, 4, 0, 0, 0, 1, 0, number);
        CHECK.channel(x, 4, 1, 2, 1, 1, 4);
        x.tick();
        CHECK.channel(x, 4, 1, 2, 1, 1, 3);
        x.tick();
        // GRANT and ACK, which expect the next number, acknowledge the first.
        CHECK.channel(x, 4, 1, 1, 2, 0, 1);
    }

    /** Two GRANTs of the server are on their way, the only packets; OPEN and two ASKs wait at the access node. */
    private static Tape twoGrants() {
        Tape x = new Tape(4);
        x.dial(0, 1, 77);
        x.dial(1, 1, 77);
        x.ticks(2);
        x.loseTo(5);
        x.loseKind(4);
        x.loseKind(17);
        CHECK.flight(x, of(14, 5, 4, 1, 1, 0, 1, 0, 2), of(14, 5, 4, 2, 2, 0, 1, 1, 3));
        CHECK.same("messages", x.channel(4, 1), 3);
        return x;
    }

    private static void everyMessageAcknowledges() {
        CHECK.begin("first the messages are acknowledged, whatever the packet's own number");
        Tape x = twoGrants();
        x.drop(1);
        x.tick();
        CHECK.same("the expected number", x.channel(4, 2), 1);
        CHECK.same("OPEN and one ASK are acknowledged", x.channel(4, 1), 1);
        x.loseTo(5);
        x.loseKind(4);
        CHECK.flight(x, of(14, 5, 4, 1, 1, 0, 1, 0, 3));
        x.tick();
        CHECK.same("a lower number", x.channel(4, 2), 1);
        CHECK.same("the other ASK is acknowledged", x.channel(4, 1), 0);
        Tape y = twoGrants();
        y.drop(0);
        y.tick();
        CHECK.same("a higher number", y.channel(4, 2), 0);
        CHECK.same("all are acknowledged", y.channel(4, 1), 0);
        CHECK.same("no session", y.circuit(1, 1), 0);
        CHECK.packet(y, 0, 17, 4, 5, 0, 0, 0, 1, 0, 0);
    }

    private static void messageWithHigherNumber() {
        CHECK.begin("a higher number than the expected one: ACK is sent, and that is all");
        Tape x = fiveMessages();
        x.drop(1);
        x.tick();
        CHECK.channel(x, 5, 1, 0, 1, 0, 0);
        CHECK.same("sessions", sessions(x), 0);
        CHECK.flight(x, of(17, 5, 4, 0, 0, 0, 1, 0, 1), of(17, 5, 4, 0, 0, 0, 1, 0, 1),
            of(12, 4, 5, 0, 0, 0, 1, 0, 0));
    }

    private static void messageWithLowerNumber() {
        CHECK.begin("a lower number than the expected one: ACK is sent, and that is all");
        Tape x = Tape.allOnline(4, 1);
        int number = x.channel(5, 2);
        x.dial(1, 1, 77);
        x.ticks(2);
        x.loseTo(4);
        CHECK.same("ASK again", x.count(13), 1);
        CHECK.same("sessions", sessions(x), 2);
        CHECK.channel(x, 5, 1, 1, number + 1, 0, 1);
        x.tick();
        CHECK.same("sessions", sessions(x), 2);
        CHECK.channel(x, 5, 1, 1, number + 1, 1, 4);
        CHECK.packet(x, x.find(17), 17, 5, 4, 0, 0, 0, 1, 0, number + 1);
        CHECK.same("one ACK", x.count(17), 1);
    }

    private static void ackIsNotAnswered() {
        CHECK.begin("unless it is ACK");
        Tape x = Tape.dialled(1);
        x.ticks(2);
        x.loseKind(14);
        x.loseKind(12);
        x.loseKind(4);
        CHECK.kinds(x, 17, 17);
        x.tick();
        CHECK.same("no ACK", x.count(17), 0);
        CHECK.channel(x, 4, 1, 0, 0, 0, 0);
    }

    private static void putWhenNoOtherIsThere() {
        CHECK.begin("a message is put and no other one is there: TRIES is 0 and WAIT is 2");
        Tape x = Tape.dialled(1);
        x.ticks(12);
        // HELLO is put behind the run of the timer, so that WAIT still is 2.
        CHECK.channel(x, 4, 1, 1, 1, 0, 2);
        // TRIES was 1 at the server when its message was acknowledged; the next one begins with 0 again.
        Tape y = Tape.dialled(1);
        y.ticks(3);
        CHECK.channel(y, 5, 1, 1, 2, 1, 4);
        y.tick();
        CHECK.channel(y, 5, 1, 0, 2, 0, 0);
        y.dial(1, 1, 77);
        y.ticks(2);
        CHECK.channel(y, 5, 1, 1, 3, 0, 1);
    }

    private static void putWhenAnotherIsThere() {
        CHECK.begin("a message is put and another one is there: TRIES and WAIT stay");
        Tape x = Tape.dialled(1);
        x.tick();
        x.lonelyTicks(1);
        CHECK.channel(x, 4, 1, 2, 0, 1, 4);
        x.loseAll();
        x.dial(1, 1, 77);
        x.tick();
        CHECK.channel(x, 4, 1, 3, 0, 1, 3);
        CHECK.packet(x, 1, 13, 4, 5, 2, 0, 0, 1, 2, 0);
    }

    /** A message was just put and the timer ran once; nothing arrives from now on. */
    private static void breaksInTheEnd(Tape x, int node) {
        int[] waits = {4, 8, 16};
        int wait = 1;
        for (int tries = 0; tries <= 3; tries++) {
            CHECK.same("TRIES", x.channel(node, 3), tries);
            CHECK.same("WAIT", x.channel(node, 4), wait);
            for (int left = wait - 1; left > 0; left--) {
                x.lonelyTicks(1);
                CHECK.same("TRIES", x.channel(node, 3), tries);
                CHECK.same("WAIT", x.channel(node, 4), left);
            }
            CHECK.same("the channel", x.channel(node, 0), 1);
            x.lonelyTicks(1);
            wait = tries < 3 ? waits[tries] : 0;
        }
        CHECK.channel(x, node, 0, 0, 0, 0, 0);
    }

    private static void waitAndTriesAtTheAccessNode() {
        CHECK.begin("the timer of the end in the access node");
        Tape x = Tape.dialled(1);
        x.tick();
        breaksInTheEnd(x, 4);
    }

    private static void waitAndTriesAtTheServer() {
        CHECK.begin("the timer of the end in the server");
        Tape x = Tape.dialled(1);
        x.ticks(2);
        breaksInTheEnd(x, 5);
    }

    private static void onlyTheFirstIsSentAgain() {
        CHECK.begin("the first message is sent again");
        Tape x = fiveMessages();
        int again = 0;
        for (int t = 0; t < 28; t++) {
            x.lonelyTicks(1);
            CHECK.same("ASK", x.count(13), 0);
            if (x.count(12) == 1) {
                again++;
                CHECK.packet(x, x.find(12), 12, 4, 5, 0, 0, 0, 1, 0, 0);
            }
        }
        CHECK.same("how often", again, 3);
        x.lonelyTicks(1);
        CHECK.same("not when it breaks", x.count(12), 0);
    }

    private static void sentAgainWithTheNumbersAsTheyAreThen() {
        CHECK.begin("a message is sent with the number that the end expects");
        Tape x = new Tape(4);
        x.dial(0, 1, 77);
        x.dial(1, 1, 77);
        x.ticks(2);
        int k = x.find(14);
        CHECK.packet(x, k, 14, 5, 4, 1, 1, 0, 1, 0, 2);
        x.lonelyTicks(1);
        CHECK.packet(x, x.find(14), 14, 5, 4, 1, 1, 0, 1, 0, 3);
    }

    private static void acknowledgedAtTheLastMoment() {
        CHECK.begin("when TRIES is 3, the channel breaks; otherwise it does not");
        Tape x = Tape.dialled(1);
        x.tick();
        x.lonelyTicks(28);
        CHECK.channel(x, 4, 1, 2, 0, 3, 1);
        x.lonelyTicks(1);
        CHECK.channel(x, 4, 0, 0, 0, 0, 0);
        // An ACK for a message that was put late arrives in the tick in which the channel would break.
        Tape y = Tape.dialled(1);
        y.ticks(2);
        y.lonelyTicks(25);
        CHECK.channel(y, 4, 1, 2, 0, 3, 3);
        y.loseAll();
        y.dial(1, 1, 77);
        y.tick();
        y.loseTo(1);
        CHECK.flight(y, of(13, 4, 5, 2, 0, 0, 1, 2, 0));
        y.tick();
        CHECK.channel(y, 4, 1, 3, 0, 3, 1);
        CHECK.same("ACK", y.count(17), 1);
        y.loseKind(14);
        y.tick();
        CHECK.channel(y, 4, 1, 0, 0, 0, 0);
        CHECK.same("circuit", y.circuit(1, 0), 2);
    }

    private static void brokenEndBeginsAnew() {
        CHECK.begin("a channel that is begun after one that broke");
        Tape x = Tape.allOnline(1, 1);
        x.hangup(0);
        x.tick();
        x.lonelyTicks(29);
        CHECK.channel(x, 4, 0, 0, 0, 0, 0);
        x.loseAll();
        x.dial(0, 1, 77);
        x.tick();
        CHECK.flight(x, of(2, 4, 0, 2), of(12, 4, 5, 0, 0, 0, 2, 0, 0), of(13, 4, 5, 2, 0, 0, 2, 1, 0));
        CHECK.channel(x, 4, 2, 2, 0, 0, 1);
        x.tick();
        CHECK.channel(x, 5, 2, 1, 2, 0, 1);
        x.ticks(10);
        CHECK.same("ON after all", x.state(0), 3);
    }
}
