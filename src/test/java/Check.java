/** Counts and prints the answers that are not the ones that are due. */
final class Check {
    private static final int MOST_PRINTED = 40;
    private static final int PACKET_FIELDS = 9;
    private int wrong;
    private String part = "";

    void begin(String name) {
        part = name;
    }

    void same(String what, long got, long want) {
        if (got == want) {
            return;
        }
        wrong++;
        if (wrong <= MOST_PRINTED) {
            System.out.println(part + ": " + what + " answered " + got + ", due is " + want);
        }
    }

    void yes(String what, boolean got) {
        same(what, got ? 1 : 0, 1);
    }

    void no(String what, boolean got) {
        same(what, got ? 1 : 0, 0);
    }

    /** The packet with k others before it: kind, from, to, and its numbers; what is left out is 0. */
    void packet(Tape x, int k, int... fields) {
        for (int which = 0; which < PACKET_FIELDS; which++) {
            int want = which < fields.length ? fields[which] : 0;
            same("packet(" + k + ", " + which + ")", x.packet(k, which), want);
        }
    }

    /** All that is in flight, each packet as above. */
    void flight(Tape x, int[]... packets) {
        same("flight()", x.flight(), packets.length);
        for (int k = 0; k < packets.length; k++) {
            packet(x, k, packets[k]);
        }
    }

    /** The kinds of all that is in flight. */
    void kinds(Tape x, int... kinds) {
        same("flight()", x.flight(), kinds.length);
        for (int k = 0; k < kinds.length; k++) {
            same("packet(" + k + ", 0)", x.packet(k, 0), kinds[k]);
        }
    }

    /** A session: number, link, state, address, QUIET. */
    void session(Tape x, int k, int... fields) {
        for (int which = 0; which < fields.length; which++) {
            same("session(" + k + ", " + which + ")", x.session(k, which), fields[which]);
        }
    }

    /** An end of the channel: number, messages, expected, TRIES, WAIT. */
    void channel(Tape x, int node, int... fields) {
        for (int which = 0; which < fields.length; which++) {
            same("channel(" + node + ", " + which + ")", x.channel(node, which), fields[which]);
        }
    }

    boolean clean() {
        return wrong == 0;
    }

    void finish() {
        System.out.println(wrong == 0 ? "all answers are as due" : wrong + " answers are not as due");
        if (wrong != 0) {
            System.exit(1);
        }
    }
}
