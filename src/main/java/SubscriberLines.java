/** Four subscribers, an access node and a server that exchange packets; ../shared/DOC.md says the rules. */
public final class SubscriberLines {
    private static final int SUBSCRIBERS = 4;
    private static final int ACCESS = 4;
    private static final int SERVER = 5;
    private static final int NODES = 6;
    private static final int SILENT_TICKS = 3;
    private static final int MOST_IN_FLIGHT = 40;
    private static final int LARGEST_POOL = 4;

    private static final int JOIN = 1;
    private static final int LINKED = 2;
    private static final int LEAVE = 3;
    private static final int LOGIN = 4;
    private static final int ACCEPT = 5;
    private static final int REFUSE = 6;
    private static final int READY = 7;
    private static final int ECHO = 8;
    private static final int ALIVE = 9;
    private static final int UP = 10;
    private static final int DOWN = 11;
    private static final int OPEN = 12;
    private static final int ASK = 13;
    private static final int GRANT = 14;
    private static final int DROP = 15;
    private static final int HELLO = 16;
    private static final int ACK = 17;

    private final Flight flight;
    private final Subscriber[] subscribers;
    private final Access access;
    private final Server server;
    private final Node[] nodes;

    public SubscriberLines(int pool) {
        flight = new Flight();
        subscribers = new Subscriber[SUBSCRIBERS];
        nodes = new Node[NODES];
        for (int i = 0; i < SUBSCRIBERS; i++) {
            subscribers[i] = new Subscriber(i, flight);
            nodes[i] = subscribers[i];
        }
        access = new Access(flight);
        nodes[ACCESS] = access;
        server = new Server(flight, Math.max(1, Math.min(LARGEST_POOL, pool)));
        nodes[SERVER] = server;
    }

    public boolean allow(int user, int secret) {
        return server.admit(user, secret);
    }

    public boolean dial(int subscriber, int user, int secret) {
        return isSubscriber(subscriber) && subscribers[subscriber].connect(user, secret);
    }

    public boolean hangup(int subscriber) {
        return isSubscriber(subscriber) && subscribers[subscriber].disconnect();
    }

    public boolean send(int subscriber, int source, int word) {
        return isSubscriber(subscriber) && subscribers[subscriber].speak(source, word);
    }

    public boolean core(int address, int word) {
        return server.speak(address, word);
    }

    public boolean restart(int node) {
        if (node == ACCESS) {
            access.forget();
        } else if (node == SERVER) {
            server.forget();
        } else {
            return false;
        }
        nodes[node].silence = SILENT_TICKS;
        return true;
    }

    public int tick() {
        int arrived = 0;
        for (int left = flight.count; left > 0; left--) {
            Packet p = flight.take(0);
            if (p != null && nodes[p.to].silence == 0) {
                arrived++;
                nodes[p.to].receive(p);
            }
        }
        for (int i = 0; i < NODES; i++) {
            if (nodes[i].silence > 0) {
                nodes[i].silence--;
            } else {
                nodes[i].runTimer();
            }
        }
        return arrived;
    }

    public boolean drop(int k) {
        return flight.take(k) != null;
    }

    public boolean swap(int k) {
        return flight.exchange(k);
    }

    public int flight() {
        return flight.count;
    }

    public int packet(int k, int which) {
        return flight.holds(k) ? flight.row[k].tell(which) : 0;
    }

    public int state(int subscriber) {
        return isSubscriber(subscriber) ? subscribers[subscriber].state : -1;
    }

    public int address(int subscriber) {
        return isSubscriber(subscriber) ? subscribers[subscriber].address : 0;
    }

    public int heard(int subscriber, int k) {
        if (!isSubscriber(subscriber)) {
            return 0;
        }
        History words = subscribers[subscriber].words;
        return k == -1 ? words.count : words.latest(k);
    }

    public int cored(int k) {
        if (k == -2) {
            return server.rejected;
        }
        return k == -1 ? server.words.count : server.words.latest(k);
    }

    public int source(int k) {
        return server.sources.latest(k);
    }

    public int circuit(int subscriber, int which) {
        return isSubscriber(subscriber) ? access.tell(subscriber, which) : 0;
    }

    public int session(int k, int which) {
        return k >= 0 && k < server.count ? server.sessions[k].tell(which) : 0;
    }

    public int channel(int node, int which) {
        if (node == ACCESS) {
            return access.end.tell(which);
        }
        return node == SERVER ? server.end.tell(which) : 0;
    }

    private static boolean isSubscriber(int subscriber) {
        return subscriber >= 0 && subscriber < SUBSCRIBERS;
    }

    /** What is on its way; the last three fields are those of the kinds of the channel alone. */
    private static final class Packet {
        int kind;
        int from;
        int to;
        int first;
        int second;
        int third;
        int channelNumber;
        int messageNumber;
        int expected;

        void bear(int first, int second, int third) {
            this.first = first;
            this.second = second;
            this.third = third;
        }

        void number(int channelNumber, int messageNumber, int expected) {
            this.channelNumber = channelNumber;
            this.messageNumber = messageNumber;
            this.expected = expected;
        }

        int tell(int which) {
            switch (which) {
                case 0: return kind;
                case 1: return from;
                case 2: return to;
                case 3: return first;
                case 4: return second;
                case 5: return third;
                case 6: return channelNumber;
                case 7: return messageNumber;
                case 8: return expected;
                default: return 0;
            }
        }
    }

    /** The packets in flight, in their order; the row's packets are used again and again. */
    private static final class Flight {
        // One more than can be in flight: the last place is never launched from, so the packet that
        // was taken last stays whole while its receiver sends others.
        final Packet[] row = new Packet[MOST_IN_FLIGHT + 1];
        private final Packet lost = new Packet();
        int count;

        Flight() {
            for (int i = 0; i < row.length; i++) {
                row[i] = new Packet();
            }
        }

        boolean holds(int k) {
            return k >= 0 && k < count;
        }

        /** The sender writes the numbers into the answer, also when the packet is a lost one. */
        Packet launch(int kind, int from, int to) {
            Packet p = lost;
            if (count < MOST_IN_FLIGHT) {
                p = row[count];
                count++;
            }
            p.kind = kind;
            p.from = from;
            p.to = to;
            p.first = 0;
            p.second = 0;
            p.third = 0;
            p.channelNumber = 0;
            p.messageNumber = 0;
            p.expected = 0;
            return p;
        }

        Packet take(int k) {
            if (!holds(k)) {
                return null;
            }
            Packet taken = row[k];
            for (int i = k; i < MOST_IN_FLIGHT; i++) {
                row[i] = row[i + 1];
            }
            row[MOST_IN_FLIGHT] = taken;
            count--;
            return taken;
        }

        boolean exchange(int k) {
            if (k < 0 || k >= count - 1) {
                return false;
            }
            Packet p = row[k];
            row[k] = row[k + 1];
            row[k + 1] = p;
            return true;
        }
    }

    /** The latest words that somebody got, the latest first, and how many there were in all. */
    private static final class History {
        private final int[] row;
        int count;

        History(int size) {
            row = new int[size];
        }

        void add(int word) {
            for (int i = row.length - 1; i > 0; i--) {
                row[i] = row[i - 1];
            }
            row[0] = word;
            count++;
        }

        int latest(int k) {
            return k >= 0 && k < row.length ? row[k] : 0;
        }
    }

    /** What packets arrive at and what has timers. */
    private abstract static class Node {
        /** The ticks whose timers still have to pass in silence. */
        int silence;

        abstract void receive(Packet p);

        abstract void runTimer();
    }

    /** Joins, logs in and is on; link and address are 0 as long as it has none. */
    private static final class Subscriber extends Node {
        private static final int OFF = 0;
        private static final int JOINING = 1;
        private static final int IN_LOGIN = 2;
        private static final int ON = 3;
        private static final int PATIENCE = 3;
        private static final int MOST_REQUESTS = 4;
        private static final int QUIET_LIMIT = 16;
        private static final int WORDS_KEPT = 4;

        private final int me;
        private final Flight flight;
        final History words = new History(WORDS_KEPT);
        int state;
        int address;
        private int link;
        private int user;
        private int secret;
        private int requests;
        private int waited;
        private int quiet;

        Subscriber(int me, Flight flight) {
            this.me = me;
            this.flight = flight;
        }

        boolean connect(int user, int secret) {
            if (state != OFF) {
                return false;
            }
            this.user = user;
            this.secret = secret;
            state = JOINING;
            requests = 0;
            request();
            return true;
        }

        boolean disconnect() {
            if (state == OFF) {
                return false;
            }
            leave();
            return true;
        }

        boolean speak(int source, int word) {
            if (state != ON) {
                return false;
            }
            flight.launch(UP, me, ACCESS).bear(link, source, word);
            return true;
        }

        void receive(Packet p) {
            if (p.kind == LINKED) {
                becomeLinked(p.first);
            } else if (hasLink() && p.first == link) {
                receiveOnLink(p);
            }
        }

        void runTimer() {
            if (state == ON) {
                quiet++;
                if (quiet == QUIET_LIMIT) {
                    leave();
                }
            } else if (state != OFF) {
                waited++;
                if (waited == PATIENCE) {
                    requestAgain();
                }
            }
        }

        private boolean hasLink() {
            return state == IN_LOGIN || state == ON;
        }

        private void becomeLinked(int newLink) {
            if (state == JOINING) {
                link = newLink;
                state = IN_LOGIN;
                requests = 0;
                request();
            }
        }

        private void receiveOnLink(Packet p) {
            if (p.kind == LEAVE) {
                turnOff();
            } else if (p.kind == ACCEPT) {
                becomeAccepted(p.second);
            } else if (p.kind == REFUSE && state == IN_LOGIN) {
                leave();
            } else if (p.kind == ECHO && state == ON) {
                quiet = 0;
                flight.launch(ALIVE, me, ACCESS).bear(link, 0, 0);
            } else if (p.kind == DOWN && state == ON && p.second == address) {
                quiet = 0;
                words.add(p.third);
            }
        }

        private void becomeAccepted(int given) {
            if (state == ON && given != address) {
                return;
            }
            state = ON;
            address = given;
            quiet = 0;
            flight.launch(READY, me, ACCESS).bear(link, 0, 0);
        }

        private void request() {
            requests++;
            waited = 0;
            if (state == JOINING) {
                flight.launch(JOIN, me, ACCESS);
            } else {
                flight.launch(LOGIN, me, ACCESS).bear(link, user, secret);
            }
        }

        private void requestAgain() {
            if (requests == MOST_REQUESTS) {
                leave();
            } else {
                request();
            }
        }

        private void leave() {
            if (hasLink()) {
                flight.launch(LEAVE, me, ACCESS).bear(link, 0, 0);
            }
            turnOff();
        }

        private void turnOff() {
            state = OFF;
            link = 0;
            address = 0;
        }
    }

    /** Stands between the subscribers and the server. */
    private static final class Access extends Node {
        private static final int IDLE_LIMIT = 10;

        private final Flight flight;
        final End end;
        // A subscriber without a circuit has link 0, a circuit without a session has session 0.
        private final int[] links = new int[SUBSCRIBERS];
        private final int[] sessions = new int[SUBSCRIBERS];
        private int idle;
        // These two outlive a restart, since no number is used twice.
        private int lastLink;
        private int lastChannel;

        Access(Flight flight) {
            this.flight = flight;
            end = new End(ACCESS, SERVER, flight);
        }

        void forget() {
            end.begin(0);
            idle = 0;
            for (int s = 0; s < SUBSCRIBERS; s++) {
                removeCircuit(s);
            }
        }

        int tell(int subscriber, int which) {
            if (which == 0) {
                return links[subscriber];
            }
            return which == 1 ? sessions[subscriber] : 0;
        }

        void receive(Packet p) {
            if (p.kind >= OPEN) {
                if (end.isNext(p)) {
                    perform(p);
                    end.acknowledge();
                }
            } else if (p.from == SERVER) {
                passToSubscriber(p);
            } else if (p.kind == JOIN) {
                join(p.from);
            } else if (p.first == links[p.from]) {
                receiveOnCircuit(p);
            }
        }

        void runTimer() {
            if (end.breaksAtTimer()) {
                for (int s = 0; s < SUBSCRIBERS; s++) {
                    closeCircuit(s);
                }
            }
            if (end.number != 0 && end.isEmpty()) {
                idle++;
            } else {
                idle = 0;
            }
            if (idle == IDLE_LIMIT) {
                end.put(HELLO, 0, 0);
                idle = 0;
            }
        }

        private void join(int s) {
            takeDown(s);
            lastLink++;
            links[s] = lastLink;
            flight.launch(LINKED, ACCESS, s).bear(lastLink, 0, 0);
            if (end.number == 0) {
                lastChannel++;
                end.begin(lastChannel);
                idle = 0;
                end.put(OPEN, 0, 0);
            }
            end.put(ASK, lastLink, 0);
        }

        private void receiveOnCircuit(Packet p) {
            if (p.kind == LEAVE) {
                takeDown(p.from);
            } else if (sessions[p.from] != 0) {
                flight.launch(p.kind, ACCESS, SERVER).bear(sessions[p.from], p.second, p.third);
            }
        }

        private void passToSubscriber(Packet p) {
            int s = subscriberOf(p.first);
            if (s >= 0) {
                flight.launch(p.kind, ACCESS, s).bear(p.first, p.second, p.third);
            }
        }

        private void perform(Packet p) {
            int s = subscriberOf(p.first);
            if (p.kind == DROP && s >= 0) {
                closeCircuit(s);
            } else if (p.kind == GRANT && s >= 0) {
                sessions[s] = p.second;
            } else if (p.kind == GRANT) {
                end.put(DROP, p.second, 0);
            }
        }

        private int subscriberOf(int link) {
            for (int s = 0; s < SUBSCRIBERS; s++) {
                if (link != 0 && links[s] == link) {
                    return s;
                }
            }
            return -1;
        }

        private void takeDown(int s) {
            int session = sessions[s];
            removeCircuit(s);
            if (session != 0) {
                end.put(DROP, session, 0);
            }
        }

        private void closeCircuit(int s) {
            if (links[s] != 0) {
                flight.launch(LEAVE, ACCESS, s).bear(links[s], 0, 0);
                removeCircuit(s);
            }
        }

        private void removeCircuit(int s) {
            links[s] = 0;
            sessions[s] = 0;
        }
    }

    /** One of the server's sessions; its address is 0 when it is WAITING. */
    private static final class Session {
        private static final int WAITING = 1;
        private static final int ACCEPTED = 2;
        private static final int OPENED = 3;

        int number;
        int link;
        int state;
        int address;
        int quiet;

        void begin(int number, int link) {
            this.number = number;
            this.link = link;
            state = WAITING;
            address = 0;
            quiet = 0;
        }

        int tell(int which) {
            switch (which) {
                case 0: return number;
                case 1: return link;
                case 2: return state;
                case 3: return address;
                case 4: return quiet;
                default: return 0;
            }
        }
    }

    /** Has the sessions and the pool, and stands for the core as well. */
    private static final class Server extends Node {
        private static final int USERS = 4;
        private static final int MOST_SESSIONS = 4;
        private static final int QUIET_LIMIT = 12;
        private static final int ACCEPT_EVERY = 3;
        private static final int ECHO_EVERY = 4;
        private static final int WORDS_KEPT = 8;

        private final Flight flight;
        final End end;
        private final int pool;
        // The first count of them are there, the lowest number first; the others are spare.
        final Session[] sessions = new Session[MOST_SESSIONS];
        int count;
        // All below outlives a restart: the users, what the core got, and the counter of sessions.
        private final boolean[] allowed = new boolean[USERS];
        private final int[] secrets = new int[USERS];
        final History words = new History(WORDS_KEPT);
        final History sources = new History(WORDS_KEPT);
        int rejected;
        private int lastSession;

        Server(Flight flight, int pool) {
            this.flight = flight;
            this.pool = pool;
            end = new End(SERVER, ACCESS, flight);
            for (int i = 0; i < MOST_SESSIONS; i++) {
                sessions[i] = new Session();
            }
        }

        void forget() {
            end.begin(0);
            count = 0;
        }

        boolean admit(int user, int secret) {
            if (user < 0 || user >= USERS) {
                return false;
            }
            allowed[user] = true;
            secrets[user] = secret;
            return true;
        }

        boolean speak(int address, int word) {
            for (int i = 0; i < count; i++) {
                Session s = sessions[i];
                if (s.state == Session.OPENED && s.address == address) {
                    flight.launch(DOWN, SERVER, ACCESS).bear(s.link, address, word);
                    return true;
                }
            }
            return false;
        }

        void receive(Packet p) {
            if (p.kind < OPEN) {
                receiveInSession(p);
                return;
            }
            if (p.kind == OPEN && p.channelNumber > end.number) {
                end.begin(p.channelNumber);
                count = 0;
            }
            if (end.isNext(p)) {
                perform(p);
                end.acknowledge();
            }
        }

        void runTimer() {
            int at = 0;
            for (int left = count; left > 0; left--) {
                if (!endsAtTimer(at)) {
                    at++;
                }
            }
            if (end.breaksAtTimer()) {
                count = 0;
            }
        }

        private void perform(Packet p) {
            if (p.kind == ASK) {
                grantOrDrop(p.first);
            } else if (p.kind == DROP) {
                int at = indexOf(p.first);
                if (at >= 0) {
                    remove(at);
                }
            }
        }

        private void grantOrDrop(int link) {
            if (count == MOST_SESSIONS) {
                end.put(DROP, link, 0);
                return;
            }
            lastSession++;
            sessions[count].begin(lastSession, link);
            count++;
            end.put(GRANT, link, lastSession);
        }

        private void receiveInSession(Packet p) {
            int at = indexOf(p.first);
            if (at < 0) {
                return;
            }
            Session s = sessions[at];
            s.quiet = 0;
            if (p.kind == LOGIN && s.state == Session.WAITING) {
                if (!logsIn(s, p)) {
                    endSession(at);
                }
            } else if (p.kind == LOGIN && s.state == Session.ACCEPTED) {
                sendAccept(s);
            } else if (p.kind == READY && s.state == Session.ACCEPTED) {
                s.state = Session.OPENED;
            } else if (p.kind == UP) {
                passToCore(s, p);
            }
        }

        private boolean logsIn(Session s, Packet p) {
            int free = lowestFreeAddress();
            if (free == 0 || !isAllowed(p.second, p.third)) {
                flight.launch(REFUSE, SERVER, ACCESS).bear(s.link, 0, 0);
                return false;
            }
            s.state = Session.ACCEPTED;
            s.address = free;
            sendAccept(s);
            return true;
        }

        private boolean isAllowed(int user, int secret) {
            return user >= 0 && user < USERS && allowed[user] && secrets[user] == secret;
        }

        private int lowestFreeAddress() {
            for (int a = 1; a <= pool; a++) {
                if (isFree(a)) {
                    return a;
                }
            }
            return 0;
        }

        private boolean isFree(int address) {
            for (int i = 0; i < count; i++) {
                if (sessions[i].address == address) {
                    return false;
                }
            }
            return true;
        }

        private void passToCore(Session s, Packet p) {
            if (s.state == Session.OPENED && p.second == s.address) {
                words.add(p.third);
                sources.add(p.second);
            } else {
                rejected++;
            }
        }

        private boolean endsAtTimer(int at) {
            Session s = sessions[at];
            s.quiet++;
            if (s.quiet == QUIET_LIMIT) {
                endSession(at);
                return true;
            }
            if (s.state == Session.ACCEPTED && s.quiet % ACCEPT_EVERY == 0) {
                sendAccept(s);
            } else if (s.state == Session.OPENED && s.quiet % ECHO_EVERY == 0) {
                flight.launch(ECHO, SERVER, ACCESS).bear(s.link, 0, 0);
            }
            return false;
        }

        private void sendAccept(Session s) {
            flight.launch(ACCEPT, SERVER, ACCESS).bear(s.link, s.address, 0);
        }

        private int indexOf(int number) {
            for (int i = 0; i < count; i++) {
                if (sessions[i].number == number) {
                    return i;
                }
            }
            return -1;
        }

        private void endSession(int at) {
            int link = sessions[at].link;
            remove(at);
            end.put(DROP, link, 0);
        }

        private void remove(int at) {
            Session gone = sessions[at];
            for (int i = at; i < count - 1; i++) {
                sessions[i] = sessions[i + 1];
            }
            count--;
            sessions[count] = gone;
        }
    }

    /** One end of the channel: what it put and what it expects. */
    private static final class End {
        private static final int WINDOW = 3;
        private static final int FIRST_WAIT = 2;
        private static final int MOST_TRIES = 3;
        // A power of two, and more than 512 calls can fill: each JOIN is a dial, or a third run of the timer
        // of one of four subscribers, so there are fewer than 700, and each leads to at most two messages at
        // an end; beside these there is OPEN once, and HELLO only when no other message is there.
        private static final int ROOM = 2048;

        private final int me;
        private final int peer;
        private final Flight flight;
        int number;
        private int expected;
        private int tries;
        private int wait;
        // The messages from number oldest to next - 1 are there, each in the place of its number modulo ROOM.
        private int oldest;
        private int next;
        private final int[] kinds = new int[ROOM];
        private final int[] firsts = new int[ROOM];
        private final int[] seconds = new int[ROOM];

        End(int me, int peer, Flight flight) {
            this.me = me;
            this.peer = peer;
            this.flight = flight;
        }

        /** The channel with this number begins; 0 is none. */
        void begin(int channelNumber) {
            number = channelNumber;
            expected = 0;
            oldest = 0;
            next = 0;
            tries = 0;
            wait = 0;
        }

        boolean isEmpty() {
            return oldest == next;
        }

        void put(int kind, int first, int second) {
            if (number == 0 || next - oldest == ROOM) {
                return;
            }
            if (isEmpty()) {
                startWaiting();
            }
            int at = placeOf(next);
            kinds[at] = kind;
            firsts[at] = first;
            seconds[at] = second;
            next++;
            if (next - oldest <= WINDOW) {
                transmit(next - 1);
            }
        }

        /** Whether the node has to do the message of this packet now, and to acknowledge it after that. */
        boolean isNext(Packet p) {
            if (p.channelNumber != number) {
                return false;
            }
            settle(p.expected);
            if (p.kind == ACK) {
                return false;
            }
            if (p.messageNumber != expected) {
                acknowledge();
                return false;
            }
            expected++;
            return true;
        }

        void acknowledge() {
            flight.launch(ACK, me, peer).number(number, 0, expected);
        }

        boolean breaksAtTimer() {
            if (isEmpty()) {
                return false;
            }
            wait--;
            if (wait > 0) {
                return false;
            }
            if (tries == MOST_TRIES) {
                begin(0);
                return true;
            }
            tries++;
            wait = FIRST_WAIT << tries;
            transmit(oldest);
            return false;
        }

        int tell(int which) {
            switch (which) {
                case 0: return number;
                case 1: return next - oldest;
                case 2: return expected;
                case 3: return isEmpty() ? 0 : tries;
                case 4: return isEmpty() ? 0 : wait;
                default: return 0;
            }
        }

        private void settle(int otherExpects) {
            int unsent = Math.min(oldest + WINDOW, next);
            int kept = Math.min(otherExpects, next);
            if (kept <= oldest) {
                return;
            }
            oldest = kept;
            startWaiting();
            int behind = Math.min(oldest + WINDOW, next);
            for (int n = Math.max(unsent, oldest); n < behind; n++) {
                transmit(n);
            }
        }

        private void startWaiting() {
            tries = 0;
            wait = FIRST_WAIT;
        }

        private void transmit(int n) {
            int at = placeOf(n);
            Packet p = flight.launch(kinds[at], me, peer);
            p.bear(firsts[at], seconds[at], 0);
            p.number(number, n, expected);
        }

        private static int placeOf(int n) {
            return n & (ROOM - 1);
        }
    }
}
