/** Promises 1 to 6. */
public final class TermsTest {
    private static final Due due = new Due();

    public static void main(String[] args) {
        newObject();
        agentsAndAtoms();
        termsOfTwo();
        termsOfAgents();
        sizes();
        whatIsFull();
        about();
        due.close();
    }

    private static void newObject() {
        SealProbe x = new SealProbe();
        for (int what = 0; what < 5; what++) {
            due.is("told(" + what + ")", x.told(what), 0);
        }
        due.is("told(5)", x.told(5), Due.NONE);
        due.is("found(0)", x.found(0), 0);
        due.is("about(0, 0)", x.about(0, 0), Due.UNKNOWN);
        due.is("ofRole(0, 0)", x.ofRole(0, 0), Due.UNKNOWN);
        due.is("send(0)", x.send(0), Due.UNKNOWN);
        due.is("broken(0)", x.broken(0), Due.UNKNOWN);
    }

    private static void agentsAndAtoms() {
        SealProbe x = new SealProbe();
        due.is("agent", x.agent(true), 0);
        due.is("agent", x.agent(false), 1);
        due.is("agent, the same is another", x.agent(true), 2);
        due.is("atom(1)", x.atom(1), 3);
        due.is("atom(2)", x.atom(2), 4);
        due.is("atom(1) again", x.atom(1), 5);
        due.is("honest", x.about(0, 5), 1);
        due.is("not honest", x.about(1, 5), 0);
        due.is("kind", x.about(0, 0), 0);
        due.is("kind", x.about(3, 0), 1);
        due.is("kind", x.about(4, 0), 2);
        for (int sort : new int[] {0, 3, -1, 4, Integer.MAX_VALUE, Integer.MIN_VALUE}) {
            due.is("atom(" + sort + ")", x.atom(sort), Due.OUTSIDE);
        }
        due.is("told(0)", x.told(0), 6);
    }

    private static void termsOfTwo() {
        SealProbe x = new SealProbe();
        x.agent(true);
        x.atom(1);
        due.is("pair", x.term(4, 0, 1), 2);
        due.is("pair the other way", x.term(4, 1, 0), 3);
        due.is("seal", x.term(5, 0, 1), 4);
        due.is("seal by any term", x.term(5, 1, 2), 5);
        due.is("hash", x.term(9, 0, 77), 6);
        due.is("hash, the same", x.term(9, 0, 1), 6);
        due.is("pair, the same", x.term(4, 0, 1), 2);
        due.is("seal, the same", x.term(5, 1, 2), 5);
        due.is("no x", x.term(4, 7, 0), Due.UNKNOWN);
        due.is("no y", x.term(5, 0, 7), Due.UNKNOWN);
        due.is("no x", x.term(9, -1, 0), Due.UNKNOWN);
        for (int kind : new int[] {-1, 0, 3, 6, 7, 8, 10, Integer.MAX_VALUE}) {
            due.is("another kind", x.term(kind, 0, 1), Due.OUTSIDE);
            due.is("another kind, no x", x.term(kind, -1, 1), Due.UNKNOWN);
            due.is("another kind, no y", x.term(kind, 0, 7), Due.UNKNOWN);
        }
        due.is("told(0)", x.told(0), 7);
    }

    private static void termsOfAgents() {
        SealProbe x = new SealProbe();
        x.agent(true);
        x.atom(1);
        x.role();
        due.is("parameter", x.variable(0, 0, 0), 2);
        due.is("received agent", x.variable(0, 2, 0), 3);
        due.is("received any", x.variable(0, 2, 3), 4);
        due.is("lock", x.of(6, 1, 0), 5);
        due.is("private", x.of(7, 99, 0), 6);
        due.is("sign", x.of(8, 1, 0), 7);
        due.is("lock for a variable", x.of(6, 1, 2), 8);
        due.is("private of a variable", x.of(7, -1, 3), 9);
        due.is("sign by a variable", x.of(8, 5, 3), 10);
        due.is("lock, the same", x.of(6, 1, 0), 5);
        due.is("private, the same", x.of(7, 1, 0), 6);
        due.is("a nonce is no agent", x.of(6, 1, 1), Due.OUTSIDE);
        due.is("a variable of any sort is none", x.of(8, 1, 4), Due.OUTSIDE);
        due.is("a term is none", x.of(7, 1, 5), Due.OUTSIDE);
        due.is("no x", x.of(6, 11, 0), Due.UNKNOWN);
        due.is("no x", x.of(8, -1, 0), Due.UNKNOWN);
        due.is("no a", x.of(6, 1, 11), Due.UNKNOWN);
        due.is("no a", x.of(7, 1, -1), Due.UNKNOWN);
        due.is("no x ahead of a that is no agent", x.of(6, 11, 1), Due.UNKNOWN);
        for (int kind : new int[] {-1, 0, 4, 5, 9, 10, Integer.MIN_VALUE}) {
            due.is("another kind", x.of(kind, 1, 0), Due.OUTSIDE);
            due.is("another kind, no x", x.of(kind, 11, 0), Due.UNKNOWN);
            due.is("another kind, no a", x.of(kind, 1, 11), Due.UNKNOWN);
        }
        due.is("told(0)", x.told(0), 11);
    }

    private static void sizes() {
        SealProbe x = new SealProbe();
        x.agent(true);
        int h = x.atom(1);
        int eleven = 0;
        int twelve = 0;
        for (int size = 2; size <= 24; size++) {
            h = x.term(9, h, 0);
            due.is("size", x.about(h, 3), size);
            eleven = size == 11 ? h : eleven;
            twelve = size == 12 ? h : twelve;
        }
        due.is("hash of size 25", x.term(9, h, 0), Due.OUTSIDE);
        due.is("lock of size 26", x.of(6, h, 0), Due.OUTSIDE);
        due.is("pair of size 24", x.about(x.term(4, eleven, twelve), 3), 24);
        due.is("pair of size 25", x.term(4, twelve, twelve), Due.OUTSIDE);
        due.is("seal of size 25", x.term(5, twelve, twelve), Due.OUTSIDE);
        int lower = x.about(h, 1);
        due.is("sign of size 25", x.of(8, lower, 0), Due.OUTSIDE);
        due.is("sign of size 24", x.about(x.of(8, x.about(lower, 1), 0), 3), 24);
        due.is("lock of size 24", x.about(x.of(6, x.about(lower, 1), 0), 3), 24);
        due.is("private of size 2", x.about(x.of(7, 0, 0), 3), 2);
    }

    private static void whatIsFull() {
        SealProbe x = new SealProbe();
        x.agent(true);
        x.role();
        int big = x.atom(1);
        for (int size = 2; size <= 24; size++) {
            big = x.term(9, big, 0);
        }
        int pair = x.term(4, 0, 0);
        int lock = x.of(6, 0, 0);
        for (int n = x.told(0); n < 200; n++) {
            due.is("atom", x.atom(2), n);
        }
        due.is("atom", x.atom(2), Due.FULL);
        due.is("atom of no sort", x.atom(0), Due.OUTSIDE);
        due.is("agent", x.agent(true), Due.FULL);
        due.is("term", x.term(4, 0, 1), Due.FULL);
        due.is("the same term", x.term(4, 0, 0), pair);
        due.is("of", x.of(8, 0, 0), Due.FULL);
        due.is("private", x.of(7, 0, 0), Due.FULL);
        due.is("the same of", x.of(6, 0, 0), lock);
        due.is("too big ahead of full", x.term(9, big, 0), Due.OUTSIDE);
        due.is("too big ahead of full", x.of(6, big, 0), Due.OUTSIDE);
        due.is("unknown ahead of full", x.term(9, 200, 0), Due.UNKNOWN);
        due.is("variable", x.variable(0, 0, 0), Due.FULL);
        due.is("told(0)", x.told(0), 200);
    }

    private static void about() {
        SealProbe x = new SealProbe();
        x.agent(false);
        x.atom(1);
        x.role();
        x.role();
        x.variable(1, 1, 2);
        x.variable(1, 2, 3);
        x.term(4, 1, 3);
        x.term(9, 1, 0);
        x.of(7, 0, 0);
        x.of(6, 4, 0);
        x.agent(true);
        x.atom(2);
        x.term(5, 7, 9);
        x.of(8, 9, 8);
        x.variable(0, 0, 0);
        x.of(7, 0, 12);
        int[][] rows = {
            {0, Due.NONE, Due.NONE, 1, 1, 0, Due.NONE, Due.NONE, Due.NONE},
            {1, Due.NONE, Due.NONE, 1, 1, Due.NONE, Due.NONE, Due.NONE, Due.NONE},
            {3, Due.NONE, Due.NONE, 1, 0, Due.NONE, 1, 2, 0},
            {3, Due.NONE, Due.NONE, 1, 0, Due.NONE, 1, 3, 1},
            {4, 1, 3, 3, 0, Due.NONE, Due.NONE, Due.NONE, Due.NONE},
            {9, 1, Due.NONE, 2, 1, Due.NONE, Due.NONE, Due.NONE, Due.NONE},
            {7, 0, Due.NONE, 2, 1, Due.NONE, Due.NONE, Due.NONE, Due.NONE},
            {6, 4, 0, 5, 0, Due.NONE, Due.NONE, Due.NONE, Due.NONE},
            {0, Due.NONE, Due.NONE, 1, 1, 1, Due.NONE, Due.NONE, Due.NONE},
            {2, Due.NONE, Due.NONE, 1, 1, Due.NONE, Due.NONE, Due.NONE, Due.NONE},
            {5, 7, 9, 7, 0, Due.NONE, Due.NONE, Due.NONE, Due.NONE},
            {8, 9, 8, 3, 1, Due.NONE, Due.NONE, Due.NONE, Due.NONE},
            {3, Due.NONE, Due.NONE, 1, 0, Due.NONE, 0, 0, 0},
            {7, 12, Due.NONE, 2, 0, Due.NONE, Due.NONE, Due.NONE, Due.NONE},
        };
        for (int t = 0; t < rows.length; t++) {
            for (int what = 0; what <= 8; what++) {
                due.is("about(" + t + ", " + what + ")", x.about(t, what), rows[t][what]);
            }
        }
        due.is("about(0, 9)", x.about(0, 9), Due.OUTSIDE);
        due.is("about(0, -1)", x.about(0, -1), Due.OUTSIDE);
        due.is("about(14, 0)", x.about(14, 0), Due.UNKNOWN);
        due.is("unknown ahead of outside", x.about(-1, 9), Due.UNKNOWN);
    }
}
