import java.util.ArrayList;
import java.util.Collections;
import java.util.HashMap;
import java.util.List;
import java.util.Map;
import java.util.TreeMap;

/**
 * The document's rules a second time, written apart from the program and in another form (lists, maps,
 * a mark on each message that was sent), so that a slip in one of the two shows as a difference.
 */
final class Model {
    static final String[] KINDS = {"", "JOIN", "LINKED", "LEAVE", "LOGIN", "ACCEPT", "REFUSE", "READY", "ECHO",
        "ALIVE", "UP", "DOWN", "OPEN", "ASK", "GRANT", "DROP", "HELLO", "ACK"};

    record Sent(String kind, int from, int to, int[] numbers, int[] channel) { }

    static final class Message {
        final String kind;
        final int[] numbers;
        final int number;
        boolean wasSent;

        Message(String kind, int[] numbers, int number) {
            this.kind = kind;
            this.numbers = numbers;
            this.number = number;
        }
    }

    static final class ChannelEnd {
        int number;
        int expects;
        int nextNumber;
        int tries;
        int wait;
        final List<Message> messages = new ArrayList<>();

        void reset(int newNumber) {
            number = newNumber;
            expects = 0;
            nextNumber = 0;
            messages.clear();
        }
    }

    static final class Line {
        String state = "OFF";
        int link;
        int address;
        int user;
        int secret;
        int timesSent;
        int runsSince;
        int quiet;
        final List<Integer> words = new ArrayList<>();
    }

    static final class Circuit {
        int link;
        int session;
    }

    static final class Sess {
        int link;
        int state = 1;
        int address;
        int quiet;
    }

    final int pool;
    final List<Sent> air = new ArrayList<>();
    final Line[] lines = {new Line(), new Line(), new Line(), new Line()};
    final Map<Integer, Integer> users = new HashMap<>();
    final Map<Integer, Circuit> circuits = new TreeMap<>();
    final TreeMap<Integer, Sess> sessions = new TreeMap<>();
    final ChannelEnd[] ends = {new ChannelEnd(), new ChannelEnd()};
    final int[] silent = {0, 0};
    final List<int[]> cored = new ArrayList<>();
    int rejected;
    int idle;
    int linkCounter;
    int sessionCounter;
    int channelCounter;

    Model(int pool) {
        this.pool = pool < 1 ? 1 : pool > 4 ? 4 : pool;
    }

    // ---- calls

    boolean allow(int user, int secret) {
        if (user < 0 || user > 3) {
            return false;
        }
        users.put(user, secret);
        return true;
    }

    boolean dial(int s, int user, int secret) {
        if (s < 0 || s > 3 || !lines[s].state.equals("OFF")) {
            return false;
        }
        Line l = lines[s];
        l.state = "JOINING";
        l.user = user;
        l.secret = secret;
        l.timesSent = 1;
        l.runsSince = 0;
        emit("JOIN", s, 4);
        return true;
    }

    boolean hangup(int s) {
        if (s < 0 || s > 3 || lines[s].state.equals("OFF")) {
            return false;
        }
        if (!lines[s].state.equals("JOINING")) {
            emit("LEAVE", s, 4, lines[s].link);
        }
        lines[s].state = "OFF";
        return true;
    }

    boolean send(int s, int source, int word) {
        if (s < 0 || s > 3 || !lines[s].state.equals("ON")) {
            return false;
        }
        emit("UP", s, 4, lines[s].link, source, word);
        return true;
    }

    boolean core(int address, int word) {
        for (Sess s : sessions.values()) {
            if (s.state == 3 && s.address == address) {
                emit("DOWN", 5, 4, s.link, address, word);
                return true;
            }
        }
        return false;
    }

    boolean restart(int node) {
        if (node != 4 && node != 5) {
            return false;
        }
        silent[node - 4] = 3;
        ends[node - 4].reset(0);
        if (node == 4) {
            circuits.clear();
            idle = 0;
        } else {
            sessions.clear();
        }
        return true;
    }

    int tick() {
        int n = air.size();
        int counted = 0;
        for (int i = 0; i < n; i++) {
            Sent p = air.remove(0);
            if (p.to() >= 4 && silent[p.to() - 4] > 0) {
                continue;
            }
            counted++;
            if (p.to() < 4) {
                atSubscriber(p);
            } else if (p.channel() != null) {
                atEnd(p);
            } else if (p.to() == 4) {
                atAccess(p);
            } else {
                atServer(p);
            }
        }
        for (int s = 0; s < 4; s++) {
            subscriberTimer(s);
        }
        if (silent[0] > 0) {
            silent[0]--;
        } else {
            accessTimer();
        }
        if (silent[1] > 0) {
            silent[1]--;
        } else {
            serverTimer();
        }
        return counted;
    }

    boolean drop(int k) {
        if (k < 0 || k >= air.size()) {
            return false;
        }
        air.remove(k);
        return true;
    }

    boolean swap(int k) {
        if (k < 0 || (long) k + 1 >= air.size()) {
            return false;
        }
        Collections.swap(air, k, k + 1);
        return true;
    }

    int flight() {
        return air.size();
    }

    int packet(int k, int which) {
        if (k < 0 || k >= air.size()) {
            return 0;
        }
        Sent p = air.get(k);
        if (which == 0) {
            return List.of(KINDS).indexOf(p.kind());
        }
        if (which == 1 || which == 2) {
            return which == 1 ? p.from() : p.to();
        }
        if (which >= 3 && which <= 5) {
            return which - 3 < p.numbers().length ? p.numbers()[which - 3] : 0;
        }
        return which >= 6 && which <= 8 && p.channel() != null ? p.channel()[which - 6] : 0;
    }

    int state(int s) {
        return s < 0 || s > 3 ? -1 : List.of("OFF", "JOINING", "LOGIN", "ON").indexOf(lines[s].state);
    }

    int address(int s) {
        return state(s) == 3 ? lines[s].address : 0;
    }

    int heard(int s, int k) {
        if (s < 0 || s > 3) {
            return 0;
        }
        List<Integer> w = lines[s].words;
        if (k == -1) {
            return w.size();
        }
        return k >= 0 && k <= 3 && k < w.size() ? w.get(w.size() - 1 - k) : 0;
    }

    int cored(int k) {
        if (k == -2) {
            return rejected;
        }
        return k == -1 ? cored.size() : ofCore(k, 0);
    }

    int source(int k) {
        return ofCore(k, 1);
    }

    private int ofCore(int k, int which) {
        return k >= 0 && k <= 7 && k < cored.size() ? cored.get(cored.size() - 1 - k)[which] : 0;
    }

    int circuit(int s, int which) {
        Circuit c = circuits.get(s);
        return c == null ? 0 : which == 0 ? c.link : which == 1 ? c.session : 0;
    }

    int session(int k, int which) {
        List<Integer> numbers = new ArrayList<>(sessions.keySet());
        if (k < 0 || k >= numbers.size()) {
            return 0;
        }
        Sess s = sessions.get(numbers.get(k));
        int[] told = {numbers.get(k), s.link, s.state, s.address, s.quiet};
        return which >= 0 && which < told.length ? told[which] : 0;
    }

    int channel(int node, int which) {
        if (node != 4 && node != 5 || ends[node - 4].number == 0) {
            return 0;
        }
        ChannelEnd e = ends[node - 4];
        boolean some = !e.messages.isEmpty();
        int[] told = {e.number, e.messages.size(), e.expects, some ? e.tries : 0, some ? e.wait : 0};
        return which >= 0 && which < told.length ? told[which] : 0;
    }

    // ---- packets

    private void emit(String kind, int from, int to, int... numbers) {
        if (air.size() < 40) {
            air.add(new Sent(kind, from, to, numbers, null));
        }
    }

    private void emitOnChannel(int node, String kind, int[] numbers, int messageNumber) {
        ChannelEnd e = ends[node - 4];
        if (air.size() < 40) {
            air.add(new Sent(kind, node, 9 - node, numbers, new int[] {e.number, messageNumber, e.expects}));
        }
    }

    // ---- the subscriber

    private void atSubscriber(Sent p) {
        Line l = lines[p.to()];
        if (p.kind().equals("LINKED")) {
            if (l.state.equals("JOINING")) {
                l.link = p.numbers()[0];
                l.state = "LOGIN";
                l.timesSent = 1;
                l.runsSince = 0;
                emit("LOGIN", p.to(), 4, l.link, l.user, l.secret);
            }
            return;
        }
        boolean login = l.state.equals("LOGIN");
        boolean on = l.state.equals("ON");
        if (!login && !on || p.numbers()[0] != l.link) {
            return;
        }
        switch (p.kind()) {
            case "ACCEPT" -> {
                int a = p.numbers()[1];
                if (login || a == l.address) {
                    l.state = "ON";
                    l.address = a;
                    l.quiet = 0;
                    emit("READY", p.to(), 4, l.link);
                }
            }
            case "REFUSE" -> {
                if (login) {
                    emit("LEAVE", p.to(), 4, l.link);
                    l.state = "OFF";
                }
            }
            case "ECHO" -> {
                if (on) {
                    l.quiet = 0;
                    emit("ALIVE", p.to(), 4, l.link);
                }
            }
            case "DOWN" -> {
                if (on && p.numbers()[1] == l.address) {
                    l.quiet = 0;
                    l.words.add(p.numbers()[2]);
                }
            }
            case "LEAVE" -> l.state = "OFF";
            default -> { }
        }
    }

    private void subscriberTimer(int s) {
        Line l = lines[s];
        if (l.state.equals("OFF")) {
            return;
        }
        if (l.state.equals("ON")) {
            if (++l.quiet == 16) {
                emit("LEAVE", s, 4, l.link);
                l.state = "OFF";
            }
            return;
        }
        if (++l.runsSince < 3) {
            return;
        }
        boolean login = l.state.equals("LOGIN");
        if (l.timesSent == 4) {
            if (login) {
                emit("LEAVE", s, 4, l.link);
            }
            l.state = "OFF";
            return;
        }
        l.timesSent++;
        l.runsSince = 0;
        if (login) {
            emit("LOGIN", s, 4, l.link, l.user, l.secret);
        } else {
            emit("JOIN", s, 4);
        }
    }

    // ---- the access node

    private void atAccess(Sent p) {
        int s = p.from();
        if (p.kind().equals("JOIN")) {
            takeDown(s);
            Circuit c = new Circuit();
            c.link = ++linkCounter;
            circuits.put(s, c);
            emit("LINKED", 4, s, c.link);
            if (ends[0].number == 0) {
                ends[0].reset(++channelCounter);
                idle = 0;
                put(4, "OPEN");
            }
            put(4, "ASK", c.link);
            return;
        }
        if (s == 5) {
            for (Map.Entry<Integer, Circuit> e : circuits.entrySet()) {
                if (e.getValue().link == p.numbers()[0]) {
                    emit(p.kind(), 4, e.getKey(), p.numbers());
                }
            }
            return;
        }
        Circuit c = circuits.get(s);
        if (c == null || c.link != p.numbers()[0]) {
            return;
        }
        if (p.kind().equals("LEAVE")) {
            takeDown(s);
        } else if (c.session != 0) {
            int[] numbers = p.numbers().clone();
            numbers[0] = c.session;
            emit(p.kind(), 4, 5, numbers);
        }
    }

    private void takeDown(int s) {
        Circuit c = circuits.remove(s);
        if (c != null && c.session != 0) {
            put(4, "DROP", c.session);
        }
    }

    private void leaveCircuit(int s) {
        Circuit c = circuits.remove(s);
        if (c != null) {
            emit("LEAVE", 4, s, c.link);
        }
    }

    private void accessDoes(String kind, int[] numbers) {
        int owner = -1;
        for (Map.Entry<Integer, Circuit> e : circuits.entrySet()) {
            if (numbers.length > 0 && e.getValue().link == numbers[0]) {
                owner = e.getKey();
            }
        }
        if (kind.equals("GRANT")) {
            if (owner < 0) {
                put(4, "DROP", numbers[1]);
            } else {
                circuits.get(owner).session = numbers[1];
            }
        }
        if (kind.equals("DROP") && owner >= 0) {
            leaveCircuit(owner);
        }
    }

    private void accessTimer() {
        if (endTimer(4)) {
            for (int s = 0; s < 4; s++) {
                leaveCircuit(s);
            }
        }
        idle = ends[0].number != 0 && ends[0].messages.isEmpty() ? idle + 1 : 0;
        if (idle == 10) {
            put(4, "HELLO");
            idle = 0;
        }
    }

    // ---- the server

    private void atServer(Sent p) {
        int number = p.numbers()[0];
        Sess s = sessions.get(number);
        if (s == null) {
            return;
        }
        s.quiet = 0;
        switch (p.kind()) {
            case "LOGIN" -> {
                if (s.state == 1) {
                    firstLogin(number, s, p.numbers()[1], p.numbers()[2]);
                } else if (s.state == 2) {
                    emit("ACCEPT", 5, 4, s.link, s.address);
                }
            }
            case "READY" -> {
                if (s.state == 2) {
                    s.state = 3;
                }
            }
            case "UP" -> {
                if (s.state == 3 && p.numbers()[1] == s.address) {
                    cored.add(new int[] {p.numbers()[2], p.numbers()[1]});
                } else {
                    rejected++;
                }
            }
            default -> { }
        }
    }

    private void firstLogin(int number, Sess s, int user, int secret) {
        List<Integer> free = new ArrayList<>();
        for (int a = 1; a <= pool; a++) {
            free.add(a);
        }
        for (Sess other : sessions.values()) {
            free.remove(Integer.valueOf(other.address));
        }
        if (users.containsKey(user) && users.get(user) == secret && !free.isEmpty()) {
            s.state = 2;
            s.address = free.get(0);
            emit("ACCEPT", 5, 4, s.link, s.address);
        } else {
            emit("REFUSE", 5, 4, s.link);
            sessions.remove(number);
            put(5, "DROP", s.link);
        }
    }

    private void serverDoes(String kind, int[] numbers) {
        if (kind.equals("ASK")) {
            if (sessions.size() == 4) {
                put(5, "DROP", numbers[0]);
            } else {
                Sess s = new Sess();
                s.link = numbers[0];
                sessions.put(++sessionCounter, s);
                put(5, "GRANT", s.link, sessionCounter);
            }
        }
        if (kind.equals("DROP")) {
            sessions.remove(numbers[0]);
        }
    }

    private void serverTimer() {
        for (int number : new ArrayList<>(sessions.keySet())) {
            Sess s = sessions.get(number);
            s.quiet++;
            if (s.quiet == 12) {
                sessions.remove(number);
                put(5, "DROP", s.link);
            } else if (s.state == 2 && s.quiet % 3 == 0) {
                emit("ACCEPT", 5, 4, s.link, s.address);
            } else if (s.state == 3 && s.quiet % 4 == 0) {
                emit("ECHO", 5, 4, s.link);
            }
        }
        if (endTimer(5)) {
            sessions.clear();
        }
    }

    // ---- the channel

    private void put(int node, String kind, int... numbers) {
        ChannelEnd e = ends[node - 4];
        if (e.number == 0) {
            return;
        }
        if (e.messages.isEmpty()) {
            e.tries = 0;
            e.wait = 2;
        }
        e.messages.add(new Message(kind, numbers, e.nextNumber++));
        sendFirstThree(node);
    }

    private void sendFirstThree(int node) {
        List<Message> messages = ends[node - 4].messages;
        for (int i = 0; i < 3 && i < messages.size(); i++) {
            Message m = messages.get(i);
            if (!m.wasSent) {
                m.wasSent = true;
                emitOnChannel(node, m.kind, m.numbers, m.number);
            }
        }
    }

    private void atEnd(Sent p) {
        int node = p.to();
        ChannelEnd e = ends[node - 4];
        if (node == 5 && p.kind().equals("OPEN") && p.channel()[0] > e.number) {
            e.reset(p.channel()[0]);
            sessions.clear();
        }
        if (p.channel()[0] != e.number) {
            return;
        }
        if (e.messages.removeIf(m -> m.number < p.channel()[2])) {
            e.tries = 0;
            e.wait = 2;
            sendFirstThree(node);
        }
        if (p.kind().equals("ACK")) {
            return;
        }
        if (p.channel()[1] == e.expects) {
            e.expects++;
            if (node == 4) {
                accessDoes(p.kind(), p.numbers());
            } else {
                serverDoes(p.kind(), p.numbers());
            }
        }
        emitOnChannel(node, "ACK", new int[0], 0);
    }

    private boolean endTimer(int node) {
        ChannelEnd e = ends[node - 4];
        if (e.messages.isEmpty() || --e.wait > 0) {
            return false;
        }
        if (e.tries == 3) {
            e.reset(0);
            return true;
        }
        e.tries++;
        e.wait = new int[] {2, 4, 8, 16}[e.tries];
        Message m = e.messages.get(0);
        emitOnChannel(node, m.kind, m.numbers, m.number);
        return false;
    }
}
