/**
 * Each refusal that a promise names: that it is answered, which one is where two fit, and that
 * nothing has changed then. (Refusals asks of the object all that can be asked, with and without.)
 */
public final class RefusalsTest {
    private static final Due due = new Due();
    private static final int LOW = Integer.MIN_VALUE, HIGH = Integer.MAX_VALUE;

    public static void main(String[] args) {
        empty();
        smallTerms();
        smallRoles();
        smallClaims();
        smallWithoutRun();
        running();
        atTheEnd();
        noEventsYet();
        fullTerms();
        fullRoles();
        fullClaims();
        fullRunning();
        openRoles();
        parameters();
        knownAndRunning();
        roomForSome();
        rowTooBig();
        attackOfOne();
        attackOfNone();
        foundNothing();
        theVeryTermItSends();
        afterClear();
        due.close();
    }

    /** One SESSION that sends a SEAL, receives a PAIR with its PARAMETER, sends a HASH; two ROLES are open. */
    private static void small(SealProbe x) {
        x.agent(true);          // 0
        x.agent(false);         // 1
        x.atom(1);              // 2, known
        x.atom(2);              // 3
        x.role();
        x.role();
        x.role();
        x.variable(0, 0, 0);    // 4
        x.variable(0, 1, 1);    // 5
        x.variable(0, 2, 3);    // 6
        x.variable(1, 2, 1);    // 7
        x.variable(2, 0, 0);    // 8
        x.variable(2, 0, 0);    // 9
        x.term(5, 5, 3);        // 10
        x.term(4, 4, 6);        // 11
        x.term(9, 6, 0);        // 12
        x.term(4, 0, 2);        // 13, can be received
        x.term(4, 1, 2);        // 14, is of another AGENT
        x.term(4, 0, 3);        // 15, can't be made
        x.event(0, true, 10);
        x.event(0, false, 11);
        x.event(0, true, 12);
        x.event(1, false, 7);
        x.know(2);
        x.session(0, 0, 0, 0);  // 16 is FRESH
        x.secret(0, 1);
        x.agree(0, 1, 0);
        x.join(1, 2, 0);
    }

    private static void empty() {
        Refusals r = new Refusals(due, x -> { });
        r.is("atom(0)", x -> x.atom(0), Due.OUTSIDE);
        r.is("atom(3)", x -> x.atom(3), Due.OUTSIDE);
        r.is("term of nothing", x -> x.term(4, 0, 0), Due.UNKNOWN);
        r.is("hash of nothing", x -> x.term(9, 0, 0), Due.UNKNOWN);
        r.is("another kind of nothing", x -> x.term(3, 0, 0), Due.UNKNOWN);
        r.is("lock of nothing", x -> x.of(6, 0, 0), Due.UNKNOWN);
        r.is("private of nothing", x -> x.of(7, 0, 0), Due.UNKNOWN);
        r.is("another kind of nothing", x -> x.of(9, 0, 0), Due.UNKNOWN);
        r.is("about(0, 0)", x -> x.about(0, 0), Due.UNKNOWN);
        r.is("unknown ahead of outside", x -> x.about(0, 9), Due.UNKNOWN);
        r.is("variable", x -> x.variable(0, 0, 0), Due.UNKNOWN);
        r.is("unknown ahead of outside", x -> x.variable(0, 3, 3), Due.UNKNOWN);
        r.is("event", x -> x.event(0, false, 0), Due.UNKNOWN);
        r.is("know", x -> x.know(0), Due.UNKNOWN);
        r.is("session", x -> x.session(0, 0, 0, 0), Due.UNKNOWN);
        r.is("secret", x -> x.secret(0, 0), Due.UNKNOWN);
        r.is("agree", x -> x.agree(0, 0, 0), Due.UNKNOWN);
        r.is("unknown ahead of outside", x -> x.agree(0, 0, 7), Due.UNKNOWN);
        r.is("join", x -> x.join(0, 0, 0), Due.UNKNOWN);
        r.is("end", x -> x.end(), Due.STATE);
        r.is("send", x -> x.send(0), Due.UNKNOWN);
        r.is("receive", x -> x.receive(0, 0), Due.UNKNOWN);
        r.is("makes", x -> x.makes(0), Due.UNKNOWN);
        r.is("row", x -> x.row(0, 0), Due.STATE);
        r.is("stands", x -> x.stands(0, 0), Due.UNKNOWN);
        r.is("done", x -> x.done(0), Due.UNKNOWN);
        r.is("broken", x -> x.broken(0), Due.UNKNOWN);
        r.is("undo", x -> x.undo(), Due.STATE);
        r.is("found(4)", x -> x.found(4), Due.OUTSIDE);
        r.is("attack(0)", x -> x.attack(0), Due.NONE);
        r.is("play(0)", x -> x.play(0), Due.STATE);
        r.is("told(6)", x -> x.told(6), Due.OUTSIDE);
        r.is("ofRole", x -> x.ofRole(0, 0), Due.UNKNOWN);
        r.is("unknown ahead of outside", x -> x.ofRole(0, 3), Due.UNKNOWN);
    }

    private static void smallTerms() {
        Refusals r = new Refusals(due, RefusalsTest::small);
        for (int sort : new int[] {LOW, -1, 0, 3, HIGH}) {
            r.is("atom(" + sort + ")", x -> x.atom(sort), Due.OUTSIDE);
        }
        for (int none : new int[] {LOW, -1, 17, 200, HIGH}) {
            for (int kind = 3; kind <= 10; kind++) {
                int k = kind;
                r.is("no x of kind " + k, x -> x.term(k, none, 0), Due.UNKNOWN);
                if (k != 9) {
                    r.is("no y of kind " + k, x -> x.term(k, 0, none), Due.UNKNOWN);
                }
                r.is("no a of kind " + k, x -> x.of(k, 2, none), Due.UNKNOWN);
                if (k != 7) {
                    r.is("no x of kind " + k, x -> x.of(k, none, 0), Due.UNKNOWN);
                    r.is("no x ahead of a that is no agent", x -> x.of(k, none, 2), Due.UNKNOWN);
                }
            }
            r.is("no term", x -> x.about(none, 0), Due.UNKNOWN);
            r.is("unknown ahead of outside", x -> x.about(none, 9), Due.UNKNOWN);
            r.is("no term", x -> x.know(none), Due.UNKNOWN);
        }
        for (int kind : new int[] {LOW, -1, 0, 1, 2, 3, 6, 7, 8, 10, HIGH}) {
            r.is("another kind", x -> x.term(kind, 0, 2), Due.OUTSIDE);
        }
        for (int kind : new int[] {LOW, -1, 0, 1, 2, 3, 4, 5, 9, 10, HIGH}) {
            r.is("another kind", x -> x.of(kind, 2, 0), Due.OUTSIDE);
        }
        for (int kind = 6; kind <= 8; kind++) {
            int k = kind;
            for (int a : new int[] {2, 3, 5, 6, 7, 10, 13}) {
                r.is("kind " + k + ", " + a + " is no agent", x -> x.of(k, 2, a), Due.OUTSIDE);
            }
        }
        for (int what : new int[] {LOW, -1, 9, HIGH}) {
            r.is("about(0, " + what + ")", x -> x.about(0, what), Due.OUTSIDE);
        }
    }

    private static void smallRoles() {
        Refusals r = new Refusals(due, RefusalsTest::small);
        for (int none : new int[] {LOW, -1, 3, 4, HIGH}) {
            r.is("no role", x -> x.variable(none, 0, 0), Due.UNKNOWN);
            r.is("unknown ahead of outside", x -> x.variable(none, 0, 1), Due.UNKNOWN);
            r.is("no role", x -> x.event(none, true, 0), Due.UNKNOWN);
            r.is("unknown ahead of no", x -> x.event(none, true, 7), Due.UNKNOWN);
            r.is("no role", x -> x.session(none, 0, 0, 0), Due.UNKNOWN);
            r.is("unknown ahead of no", x -> x.session(none, 2, 2, 2), Due.UNKNOWN);
            r.is("no role", x -> x.ofRole(none, 0), Due.UNKNOWN);
            r.is("unknown ahead of outside", x -> x.ofRole(none, 3), Due.UNKNOWN);
        }
        for (int[] v : new int[][] {{-1, 0}, {3, 0}, {0, -1}, {0, 1}, {0, 2}, {0, 3}, {1, 0}, {1, 3}, {1, 4}, {2, -1},
            {2, 4}, {LOW, 0}, {HIGH, 0}, {2, LOW}, {2, HIGH}}) {
            r.is("variable(1, " + v[0] + ", " + v[1] + ")", x -> x.variable(1, v[0], v[1]), Due.OUTSIDE);
            r.is("outside ahead of closed", x -> x.variable(0, v[0], v[1]), Due.OUTSIDE);
        }
        r.is("closed", x -> x.variable(0, 2, 3), Due.STATE);
        for (int none : new int[] {LOW, -1, 17, 200, HIGH}) {
            r.is("no term", x -> x.event(1, true, none), Due.UNKNOWN);
            r.is("unknown ahead of closed", x -> x.event(0, true, none), Due.UNKNOWN);
            r.is("no a", x -> x.session(2, none, 0, 0), Due.UNKNOWN);
            r.is("no b", x -> x.session(2, 0, none, 0), Due.UNKNOWN);
            r.is("unknown ahead of no", x -> x.session(2, 2, none, 0), Due.UNKNOWN);
            r.is("unknown ahead of no", x -> x.session(2, none, 2, 0), Due.UNKNOWN);
        }
        r.is("closed", x -> x.event(0, true, 10), Due.STATE);
        r.is("closed ahead of no", x -> x.event(0, true, 7), Due.STATE);
        r.is("another role's, received", x -> x.event(1, false, 8), Due.NO);
        r.is("another role's, sent", x -> x.event(2, true, 5), Due.NO);
        r.is("another role's, in a term", x -> x.event(1, false, 11), Due.NO);
        r.is("not ground", x -> x.know(7), Due.NO);
        r.is("not ground", x -> x.know(12), Due.NO);
        r.is("known", x -> x.know(2), Due.NO);
        for (int a : new int[] {2, 3, 4, 8, 13}) {
            r.is("a is no agent", x -> x.session(2, a, 0, 0), Due.NO);
            r.is("b is no agent", x -> x.session(2, 0, a, 0), Due.NO);
        }
        for (int what : new int[] {LOW, -1, 3, 9, 16, 19, 26, 29, 36, 40, HIGH}) {
            r.is("ofRole(0, " + what + ")", x -> x.ofRole(0, what), Due.OUTSIDE);
        }
    }

    private static void smallClaims() {
        Refusals r = new Refusals(due, RefusalsTest::small);
        for (int none : new int[] {LOW, -1, 3, 4, HIGH}) {
            r.is("no role", x -> x.secret(none, 0), Due.UNKNOWN);
            r.is("no b", x -> x.agree(none, 0, 0), Due.UNKNOWN);
            r.is("no a", x -> x.agree(0, none, 0), Due.UNKNOWN);
            r.is("unknown ahead of outside", x -> x.agree(none, 0, 7), Due.UNKNOWN);
            r.is("unknown ahead of outside", x -> x.agree(0, none, -1), Due.UNKNOWN);
            r.is("no variable", x -> x.secret(0, none), Due.UNKNOWN);
            r.is("no variable of b", x -> x.join(1, none, 0), Due.UNKNOWN);
        }
        for (int none : new int[] {LOW, -1, 1, 2, 6, HIGH}) {
            r.is("no variable of a", x -> x.join(1, 0, none), Due.UNKNOWN);
            r.is("no variable", x -> x.secret(1, none), Due.UNKNOWN);
        }
        for (int n : new int[] {LOW, -1, 7, HIGH}) {
            r.is("agree with n = " + n, x -> x.agree(0, 1, n), Due.OUTSIDE);
        }
        for (int none : new int[] {LOW, -1, 2, 6, HIGH}) {
            r.is("no claim", x -> x.join(none, 0, 0), Due.UNKNOWN);
            r.is("no claim ahead of no run", x -> x.broken(none), Due.UNKNOWN);
        }
        r.is("a secret", x -> x.join(0, 0, 0), Due.STATE);
        // a SECRET has no b and a of which there could be no such VARIABLE
        r.is("a secret, whatever the variables", x -> x.join(0, -1, 0), Due.STATE);
        r.is("a secret, whatever the variables", x -> x.join(0, 0, 6), Due.STATE);
    }

    private static void smallWithoutRun() {
        Refusals r = new Refusals(due, RefusalsTest::small);
        r.is("end", x -> x.end(), Due.STATE);
        r.is("send", x -> x.send(0), Due.STATE);
        r.is("receive", x -> x.receive(0, 13), Due.STATE);
        r.is("no run ahead of not ground", x -> x.receive(0, 11), Due.STATE);
        r.is("makes", x -> x.makes(2), Due.STATE);
        r.is("no run ahead of not ground", x -> x.makes(11), Due.STATE);
        r.is("stands", x -> x.stands(0, 0), Due.STATE);
        r.is("done", x -> x.done(0), Due.STATE);
        r.is("broken", x -> x.broken(0), Due.STATE);
        r.is("undo", x -> x.undo(), Due.STATE);
        for (int what = 0; what <= 4; what++) {
            int w = what;
            r.is("row(0, " + w + ")", x -> x.row(0, w), Due.STATE);
            r.is("no run ahead of no such place", x -> x.row(-1, w), Due.STATE);
        }
        for (int what : new int[] {LOW, -1, 5, HIGH}) {
            r.is("outside ahead of no run", x -> x.row(0, what), Due.OUTSIDE);
        }
        for (int none : new int[] {LOW, -1, 1, 4, HIGH}) {
            r.is("no session ahead of no run", x -> x.send(none), Due.UNKNOWN);
            r.is("no session ahead of no run", x -> x.receive(none, 13), Due.UNKNOWN);
            r.is("no session ahead of no run", x -> x.stands(none, 0), Due.UNKNOWN);
            r.is("no session ahead of no run", x -> x.done(none), Due.UNKNOWN);
        }
        for (int none : new int[] {LOW, -1, 17, 200, HIGH}) {
            r.is("no term ahead of no run", x -> x.receive(0, none), Due.UNKNOWN);
            r.is("no term ahead of no run", x -> x.makes(none), Due.UNKNOWN);
        }
        for (int none : new int[] {LOW, -1, 3, 5, 6, HIGH}) {
            r.is("no variable ahead of no run", x -> x.stands(0, none), Due.UNKNOWN);
        }
        r.is("play", x -> x.play(0), Due.STATE);
        r.is("no attack ahead of outside", x -> x.play(-1), Due.STATE);
        r.is("no attack ahead of outside", x -> x.play(1), Due.STATE);
    }

    /** The SESSION has sent; it receives next. */
    private static void running() {
        Refusals r = new Refusals(due, x -> {
            small(x);
            x.begin();
            x.send(0);
        });
        r.is("it does not send", x -> x.send(0), Due.NO);
        r.is("not ground", x -> x.receive(0, 11), Due.NO);
        r.is("not ground", x -> x.receive(0, 6), Due.NO);
        r.is("can't be made", x -> x.receive(0, 15), Due.NO);
        r.is("of another agent", x -> x.receive(0, 14), Due.NO);
        r.is("of another kind", x -> x.receive(0, 2), Due.NO);
        r.is("not ground", x -> x.makes(6), Due.NO);
        r.is("not ground", x -> x.makes(10), Due.NO);
        r.is("a run", x -> x.know(3), Due.STATE);
        r.is("a run ahead of not ground", x -> x.know(11), Due.STATE);
        r.is("a run ahead of known", x -> x.know(2), Due.STATE);
        r.is("a run", x -> x.session(0, 0, 0, 0), Due.STATE);
        r.is("a run ahead of no agent", x -> x.session(0, 2, 0, 0), Due.STATE);
        r.is("a run, an open role", x -> x.session(2, 0, 0, 0), Due.STATE);
        for (int none : new int[] {LOW, -1, 1, 4, HIGH}) {
            r.is("no session", x -> x.send(none), Due.UNKNOWN);
            r.is("no session", x -> x.receive(none, 13), Due.UNKNOWN);
            r.is("no session", x -> x.stands(none, 0), Due.UNKNOWN);
            r.is("no session", x -> x.done(none), Due.UNKNOWN);
        }
        for (int none : new int[] {LOW, -1, 17, 200, HIGH}) {
            r.is("no term", x -> x.receive(0, none), Due.UNKNOWN);
            r.is("no term", x -> x.makes(none), Due.UNKNOWN);
            r.is("no term ahead of a run", x -> x.know(none), Due.UNKNOWN);
            r.is("no term ahead of a run", x -> x.session(0, none, 0, 0), Due.UNKNOWN);
        }
        for (int none : new int[] {LOW, -1, 3, 6, HIGH}) {
            r.is("no variable", x -> x.stands(0, none), Due.UNKNOWN);
            r.is("no role ahead of a run", x -> x.session(none, 0, 0, 0), Due.UNKNOWN);
        }
        for (int none : new int[] {LOW, -1, 2, 6, HIGH}) {
            r.is("no claim", x -> x.broken(none), Due.UNKNOWN);
        }
        for (int place : new int[] {LOW, -1, 2, 3, 199, 200, HIGH}) {
            for (int what = 0; what <= 4; what++) {
                int w = what;
                r.is("row(" + place + ", " + w + ")", x -> x.row(place, w), Due.NONE);
            }
            r.is("outside ahead of no such place", x -> x.row(place, 5), Due.OUTSIDE);
            r.is("outside ahead of no such place", x -> x.row(place, -1), Due.OUTSIDE);
        }
        for (int what : new int[] {LOW, -1, 5, HIGH}) {
            r.is("row(0, " + what + ")", x -> x.row(0, what), Due.OUTSIDE);
        }
        r.is("stands for nothing", x -> x.stands(0, 2), Due.NONE);
        r.is("no attack, a run stays", x -> x.play(0), Due.STATE);
    }

    /** The SESSION has done all. */
    private static void atTheEnd() {
        Refusals r = new Refusals(due, x -> {
            small(x);
            x.begin();
            x.send(0);
            x.receive(0, 13);
            x.send(0);
        });
        r.is("none to send", x -> x.send(0), Due.NO);
        r.is("none to receive", x -> x.receive(0, 13), Due.NO);
        r.is("unknown ahead of none to receive", x -> x.receive(0, 17), Due.UNKNOWN);
    }

    private static void noEventsYet() {
        Refusals r = new Refusals(due, x -> {
            small(x);
            x.begin();
        });
        r.is("nothing to undo", x -> x.undo(), Due.NO);
        r.is("it does not receive", x -> x.receive(0, 13), Due.NO);
        r.is("it does not receive, not ground", x -> x.receive(0, 11), Due.NO);
        r.is("unknown ahead of it does not receive", x -> x.receive(0, 17), Due.UNKNOWN);
    }

    /** Everything is full: 200 TERMS, 4 ROLES, 4 SESSIONS, 6 CLAIMS, 20 known; ROLES 1 to 3 are open. */
    private static void full(SealProbe x) {
        x.agent(true);                      // 0
        x.agent(false);                     // 1
        x.atom(1);                          // 2
        x.atom(2);                          // 3
        for (int role = 0; role < 4; role++) {
            x.role();
        }
        x.variable(0, 0, 0);                // 4
        x.variable(0, 1, 1);                // 5
        for (int v = 2; v < 6; v++) {
            x.variable(0, 2, 1);            // 6 to 9
        }
        for (int v = 0; v < 6; v++) {
            x.variable(1, 2, 3);            // 10 to 15
        }
        x.variable(2, 0, 0);                // 16
        x.variable(2, 1, 1);                // 17
        for (int v = 0; v < 4; v++) {
            x.variable(3, 0, 0);            // 18 to 21
        }
        x.term(9, 2, 0);                    // 22
        for (int t = 23; t < 45; t++) {
            x.term(9, t - 1, 0);            // up to 44 of SIZE 24
        }
        x.term(5, 5, 3);                    // 45
        x.event(0, true, 45);
        for (int k = 1; k < 6; k++) {
            x.event(0, false, 6);
            x.event(1, false, 10);
        }
        x.event(1, false, 11);
        for (int s = 0; s < 4; s++) {
            x.session(0, 0, 0, 0);          // 46 to 49
        }
        for (int n = x.told(0); n < 200; n++) {
            x.atom(2);
        }
        for (int t = 0; t < 20; t++) {
            x.know(180 + t);
        }
        x.agree(0, 0, 6);
        for (int j = 0; j < 4; j++) {
            x.join(0, j, j);
        }
        for (int c = 1; c < 6; c++) {
            x.secret(0, c);
        }
    }

    private static void fullTerms() {
        Refusals r = new Refusals(due, RefusalsTest::full);
        r.is("agent", x -> x.agent(true), Due.FULL);
        r.is("agent", x -> x.agent(false), Due.FULL);
        r.is("atom", x -> x.atom(1), Due.FULL);
        r.is("atom", x -> x.atom(2), Due.FULL);
        r.is("outside ahead of full", x -> x.atom(0), Due.OUTSIDE);
        r.is("outside ahead of full", x -> x.atom(3), Due.OUTSIDE);
        r.is("pair", x -> x.term(4, 0, 1), Due.FULL);
        r.is("seal", x -> x.term(5, 0, 1), Due.FULL);
        r.is("hash", x -> x.term(9, 0, 1), Due.FULL);
        r.is("lock", x -> x.of(6, 2, 0), Due.FULL);
        r.is("private", x -> x.of(7, 2, 0), Due.FULL);
        r.is("sign", x -> x.of(8, 2, 0), Due.FULL);
        r.is("no x ahead of full", x -> x.term(4, 200, 0), Due.UNKNOWN);
        r.is("no y ahead of full", x -> x.term(5, 0, 200), Due.UNKNOWN);
        r.is("no x ahead of full", x -> x.term(9, 200, 0), Due.UNKNOWN);
        r.is("no x ahead of full", x -> x.of(6, 200, 0), Due.UNKNOWN);
        r.is("no a ahead of full", x -> x.of(7, 0, 200), Due.UNKNOWN);
        r.is("no a ahead of full", x -> x.of(8, 0, 200), Due.UNKNOWN);
        r.is("no x ahead of a size above 24", x -> x.term(4, 200, 44), Due.UNKNOWN);
        r.is("no y ahead of a size above 24", x -> x.term(4, 44, 200), Due.UNKNOWN);
        r.is("no a ahead of a size above 24", x -> x.of(6, 44, 200), Due.UNKNOWN);
        r.is("another kind ahead of full", x -> x.term(6, 0, 1), Due.OUTSIDE);
        r.is("another kind ahead of full", x -> x.of(9, 2, 0), Due.OUTSIDE);
        r.is("no agent ahead of full", x -> x.of(6, 2, 2), Due.OUTSIDE);
        r.is("no agent ahead of full", x -> x.of(7, 2, 2), Due.OUTSIDE);
        r.is("size 25 ahead of full", x -> x.term(9, 44, 0), Due.OUTSIDE);
        r.is("size 26 ahead of full", x -> x.term(4, 44, 0), Due.OUTSIDE);
        r.is("size 26 ahead of full", x -> x.term(5, 0, 44), Due.OUTSIDE);
        r.is("size 25 ahead of full", x -> x.of(6, 43, 0), Due.OUTSIDE);
        r.is("size 25 ahead of full", x -> x.of(8, 43, 0), Due.OUTSIDE);
        r.is("size 24", x -> x.of(8, 42, 0), Due.FULL);
        r.is("size 24", x -> x.of(6, 42, 0), Due.FULL);
        r.is("size 24", x -> x.term(4, 42, 0), Due.FULL);
    }

    private static void fullRoles() {
        Refusals r = new Refusals(due, RefusalsTest::full);
        r.is("a fifth role", x -> x.role(), Due.FULL);
        r.is("a seventh variable", x -> x.variable(1, 2, 3), Due.FULL);
        r.is("200 terms", x -> x.variable(2, 2, 3), Due.FULL);
        r.is("outside ahead of full", x -> x.variable(1, 0, 1), Due.OUTSIDE);
        r.is("outside ahead of full", x -> x.variable(2, 3, 1), Due.OUTSIDE);
        r.is("unknown ahead of full", x -> x.variable(4, 0, 0), Due.UNKNOWN);
        r.is("closed ahead of full", x -> x.variable(0, 0, 0), Due.STATE);
        r.is("a seventh event", x -> x.event(1, false, 10), Due.FULL);
        r.is("full ahead of another role's", x -> x.event(1, false, 4), Due.FULL);
        r.is("full ahead of not received", x -> x.event(1, true, 12), Due.FULL);
        r.is("no term ahead of full", x -> x.event(1, true, 200), Due.UNKNOWN);
        r.is("closed ahead of full", x -> x.event(0, false, 6), Due.STATE);
        r.is("closed ahead of full and no", x -> x.event(0, false, 10), Due.STATE);
        r.is("a twenty-first", x -> x.know(0), Due.FULL);
        r.is("full ahead of known", x -> x.know(180), Due.FULL);
        r.is("full ahead of not ground", x -> x.know(10), Due.FULL);
        r.is("no term ahead of full", x -> x.know(200), Due.UNKNOWN);
        r.is("a fifth session", x -> x.session(0, 0, 0, 0), Due.FULL);
        r.is("a fifth session of another role", x -> x.session(1, 0, 0, 0), Due.FULL);
        r.is("full ahead of no agent", x -> x.session(0, 2, 0, 0), Due.FULL);
        r.is("full ahead of four parameters", x -> x.session(3, 0, 0, 0), Due.FULL);
        r.is("no term ahead of full", x -> x.session(0, 200, 0, 0), Due.UNKNOWN);
        r.is("no role ahead of full", x -> x.session(4, 0, 0, 0), Due.UNKNOWN);
    }

    private static void fullClaims() {
        Refusals r = new Refusals(due, RefusalsTest::full);
        r.is("a seventh", x -> x.secret(0, 0), Due.FULL);
        r.is("a seventh", x -> x.agree(0, 1, 0), Due.FULL);
        r.is("no variable ahead of full", x -> x.secret(0, 6), Due.UNKNOWN);
        r.is("no role ahead of full", x -> x.secret(4, 0), Due.UNKNOWN);
        r.is("no role ahead of full", x -> x.agree(4, 0, 0), Due.UNKNOWN);
        r.is("no role ahead of full", x -> x.agree(0, 4, 0), Due.UNKNOWN);
        r.is("outside ahead of full", x -> x.agree(0, 0, 7), Due.OUTSIDE);
        r.is("outside ahead of full", x -> x.agree(0, 0, -1), Due.OUTSIDE);
        r.is("a fifth joined", x -> x.join(0, 0, 0), Due.FULL);
        r.is("no variable ahead of full", x -> x.join(0, 6, 0), Due.UNKNOWN);
        r.is("no variable ahead of full", x -> x.join(0, 0, -1), Due.UNKNOWN);
        r.is("a secret", x -> x.join(5, 0, 0), Due.STATE);
        r.is("no claim ahead of full", x -> x.join(6, 0, 0), Due.UNKNOWN);
    }

    private static void fullRunning() {
        Refusals r = new Refusals(due, x -> {
            full(x);
            x.begin();
            x.send(0);
        });
        r.is("a run ahead of full", x -> x.know(0), Due.STATE);
        r.is("a run ahead of full and known", x -> x.know(180), Due.STATE);
        r.is("unknown ahead of a run", x -> x.know(200), Due.UNKNOWN);
        r.is("a run ahead of full", x -> x.session(0, 0, 0, 0), Due.STATE);
        r.is("a run ahead of full and no", x -> x.session(3, 2, 2, 2), Due.STATE);
        r.is("unknown ahead of a run", x -> x.session(0, 200, 0, 0), Due.UNKNOWN);
        r.is("no room for what was sent", x -> x.row(20, 4), Due.FULL);
    }

    /** What is received in an EVENT behind, or sent in one ahead, was not received. */
    private static void openRoles() {
        Refusals r = new Refusals(due, x -> {
            small(x);
            x.variable(1, 2, 0);    // 17
            x.variable(1, 2, 3);    // 18
            x.term(5, 7, 18);       // 19
            x.of(6, 7, 17);         // 20
            x.of(7, 0, 17);         // 21
            x.term(4, 7, 18);       // 22
        });
        r.is("in it alone", x -> x.event(1, true, 18), Due.NO);
        r.is("the key", x -> x.event(1, true, 19), Due.NO);
        r.is("the agent of a lock", x -> x.event(1, true, 20), Due.NO);
        r.is("the agent of a private", x -> x.event(1, true, 21), Due.NO);
        r.is("the second one of a pair", x -> x.event(1, true, 22), Due.NO);
    }

    private static void parameters() {
        Refusals r = new Refusals(due, x -> {
            x.agent(true);
            x.atom(1);
            x.role();
            x.role();
            for (int v = 0; v < 4; v++) {
                x.variable(0, 0, 0);
            }
            for (int v = 0; v < 3; v++) {
                x.variable(1, 0, 0);
            }
        });
        r.is("four", x -> x.session(0, 0, 0, 0), Due.NO);
        r.is("four, no agent", x -> x.session(0, 1, 1, 1), Due.NO);
        r.is("no a ahead of four", x -> x.session(0, 9, 0, 0), Due.UNKNOWN);
        r.is("no b ahead of four", x -> x.session(0, 0, 9, 0), Due.UNKNOWN);
        r.is("no c ahead of four", x -> x.session(0, 0, 0, 9), Due.UNKNOWN);
        r.is("no a", x -> x.session(1, -1, 0, 0), Due.UNKNOWN);
        r.is("no b", x -> x.session(1, 0, -1, 0), Due.UNKNOWN);
        r.is("no c", x -> x.session(1, 0, 0, -1), Due.UNKNOWN);
        r.is("no c ahead of no agent", x -> x.session(1, 1, 1, 9), Due.UNKNOWN);
        r.is("a is no agent", x -> x.session(1, 1, 0, 0), Due.NO);
        r.is("b is no agent", x -> x.session(1, 0, 1, 0), Due.NO);
        r.is("c is no agent", x -> x.session(1, 0, 0, 1), Due.NO);
        r.is("c is a variable", x -> x.session(1, 0, 0, 2), Due.NO);
    }

    /** With an ATTACK that was found: refused calls of know and session let it stand. */
    private static void knownAndRunning() {
        Refusals r = new Refusals(due, x -> {
            attack(x);
            x.play(1);
        });
        r.is("a run", x -> x.know(0), Due.STATE);
        r.is("a run", x -> x.session(0, 0, 0, 0), Due.STATE);
        r.is("too far", x -> x.play(2), Due.OUTSIDE);
        r.is("ahead of the first", x -> x.play(-1), Due.OUTSIDE);
        r.is("done", x -> x.send(0), Due.NO);
        r.is("found(4)", x -> x.found(4), Due.OUTSIDE);
        r.is("found(-1)", x -> x.found(-1), Due.OUTSIDE);
        r.is("attack(1)", x -> x.attack(1), Due.NONE);
        r.is("attack(-1)", x -> x.attack(-1), Due.NONE);
        r.is("told(6)", x -> x.told(6), Due.OUTSIDE);
        r.is("told(-1)", x -> x.told(-1), Due.OUTSIDE);
    }

    /** 198 TERMS; a SESSION would take three more, and so would the PAIR that is sent. */
    private static void roomForSome() {
        Refusals r = new Refusals(due, RefusalsTest::roomForTwo);
        r.is("three fresh ones", x -> x.session(1, 8, 0, 0), Due.FULL);
        r.is("full ahead of no agent", x -> x.session(1, 9, 0, 0), Due.FULL);
        r.is("unknown ahead of full", x -> x.session(1, 198, 0, 0), Due.UNKNOWN);
        Refusals running = new Refusals(due, x -> {
            roomForTwo(x);
            x.begin();
            x.send(0);
        });
        running.is("the pair", x -> x.row(0, 4), Due.FULL);
        running.is("no such place", x -> x.row(3, 4), Due.NONE);
    }

    private static void roomForTwo(SealProbe x) {
        x.role();
        x.variable(0, 1, 1);        // 0
        x.term(9, 0, 0);            // 1
        x.term(9, 1, 0);            // 2
        x.term(4, 1, 2);            // 3
        x.event(0, true, 3);
        x.role();
        for (int v = 0; v < 3; v++) {
            x.variable(1, 1, 1);    // 4 to 6
        }
        x.variable(1, 0, 0);        // 7
        x.agent(true);              // 8
        x.session(0, 0, 0, 0);      // 9
        for (int n = x.told(0); n < 198; n++) {
            x.atom(1);
        }
    }

    /** Place 1 of THE ROW is of SIZE 25. */
    private static void tooBig(SealProbe x) {
        x.atom(1);
        for (int t = 1; t < 12; t++) {
            x.term(9, t - 1, 0);    // up to 11 of SIZE 12
        }
        x.know(0);
        x.role();
        x.variable(0, 2, 3);        // 12
        x.term(4, 12, 12);          // 13
        x.event(0, false, 12);
        x.event(0, true, 13);
        x.session(0, 0, 0, 0);
    }

    private static void rowTooBig() {
        Refusals r = new Refusals(due, x -> {
            tooBig(x);
            x.begin();
            x.receive(0, 11);
            x.send(0);
        });
        r.is("its size is 25", x -> x.row(1, 4), Due.NO);
        Refusals crowded = new Refusals(due, x -> {
            tooBig(x);
            for (int n = x.told(0); n < 200; n++) {
                x.atom(1);
            }
            x.begin();
            x.receive(0, 11);
            x.send(0);
        });
        crowded.is("full ahead of no", x -> x.row(1, 4), Due.FULL);
    }

    private static void attack(SealProbe x) {
        x.agent(true);
        x.atom(1);
        x.role();
        x.variable(0, 0, 0);
        x.variable(0, 1, 1);
        x.event(0, true, 3);
        x.know(1);
        x.session(0, 0, 0, 0);
        x.secret(0, 1);
        x.search();
    }

    private static void attackOfOne() {
        Refusals r = new Refusals(due, RefusalsTest::attack);
        for (int n : new int[] {LOW, -1, 2, 24, HIGH}) {
            r.is("play(" + n + ")", x -> x.play(n), Due.OUTSIDE);
        }
        for (int k : new int[] {LOW, -1, 1, 24, HIGH}) {
            r.is("attack(" + k + ")", x -> x.attack(k), Due.NONE);
        }
        for (int what : new int[] {LOW, -1, 4, HIGH}) {
            r.is("found(" + what + ")", x -> x.found(what), Due.OUTSIDE);
        }
        for (int what : new int[] {LOW, -1, 6, HIGH}) {
            r.is("told(" + what + ")", x -> x.told(what), Due.OUTSIDE);
        }
        r.is("known: the attack stays", x -> x.know(1), Due.NO);
        r.is("not ground: the attack stays", x -> x.know(2), Due.NO);
        r.is("no term: the attack stays", x -> x.know(99), Due.UNKNOWN);
        r.is("no agent: the attack stays", x -> x.session(0, 1, 0, 0), Due.NO);
        r.is("no term: the attack stays", x -> x.session(0, 99, 0, 0), Due.UNKNOWN);
        r.is("no role: the attack stays", x -> x.session(1, 0, 0, 0), Due.UNKNOWN);
    }

    /** A CLAIM that is BROKEN at first: the ATTACK has no EVENTS. */
    private static void attackOfNone() {
        Refusals r = new Refusals(due, x -> {
            x.agent(true);
            x.role();
            x.variable(0, 0, 0);
            x.session(0, 0, 0, 0);
            x.secret(0, 0);
            x.search();
        });
        r.is("play(1)", x -> x.play(1), Due.OUTSIDE);
        r.is("play(-1)", x -> x.play(-1), Due.OUTSIDE);
        r.is("attack(0)", x -> x.attack(0), Due.NONE);
    }

    private static void foundNothing() {
        Refusals r = new Refusals(due, x -> {
            x.atom(1);
            x.know(0);
            x.role();
            x.event(0, true, 0);
            x.session(0, 0, 0, 0);
            x.search();
        });
        r.is("play(0)", x -> x.play(0), Due.STATE);
        r.is("no attack ahead of outside", x -> x.play(-1), Due.STATE);
        r.is("no attack ahead of outside", x -> x.play(25), Due.STATE);
        r.is("attack(0)", x -> x.attack(0), Due.NONE);
        r.is("known: what was found stays", x -> x.know(0), Due.NO);
    }

    /** What would fit is not received by an EVENT that sends, nor sent by one that receives. */
    private static void theVeryTermItSends() {
        Refusals r = new Refusals(due, x -> {
            x.agent(true);
            x.role();
            x.variable(0, 0, 0);
            x.event(0, true, 0);
            x.event(0, false, 0);
            x.event(0, true, 1);
            x.session(0, 0, 0, 0);
            x.begin();
        });
        r.is("it sends just that", x -> x.receive(0, 0), Due.NO);
        Refusals next = new Refusals(due, x -> {
            x.agent(true);
            x.role();
            x.event(0, false, 0);
            x.session(0, 0, 0, 0);
            x.begin();
        });
        next.is("it receives just that", x -> x.send(0), Due.NO);
    }

    /** Nothing of what was there ahead of clear() is left: another story goes as on a new object. */
    private static void afterClear() {
        Refusals small = new Refusals(due, RefusalsTest::small);
        small.isAs("nothing", x -> {
            x.clear();
            small(x);
        });
        small.isAs("much", x -> {
            full(x);
            x.clear();
            small(x);
        });
        small.isAs("a run", x -> {
            tooBig(x);
            x.begin();
            x.receive(0, 11);
            x.send(0);
            x.clear();
            small(x);
        });
        small.isAs("an attack", x -> {
            attack(x);
            x.play(1);
            x.clear();
            small(x);
        });
        Refusals waits = new Refusals(due, RefusalsTest::waits);
        waits.isAs("small ones", x -> {
            small(x);
            x.search();
            x.begin();
            x.send(0);
            x.clear();
            waits(x);
        });
        waits.isAs("itself", x -> {
            waits(x);
            x.search();
            x.clear();
            waits(x);
        });
        waits.isAs("much", x -> {
            full(x);
            x.clear();
            waits(x);
        });
        new Refusals(due, RefusalsTest::waits).is("it was not received", x -> x.event(1, true, 3), Due.NO);
        new Refusals(due, x -> {
            x.atom(1);
            x.role();
            x.variable(0, 2, 3);
            x.event(0, false, 1);
            x.clear();
            x.atom(1);
            x.role();
            x.variable(0, 2, 3);
        }).is("it was not received since", x -> x.event(0, true, 1), Due.NO);
    }

    /** EVENTS that receive other VARIABLES, in another order, than those of the other stories. */
    private static void waits(SealProbe x) {
        x.atom(2);
        x.know(0);
        x.role();
        x.role();
        x.variable(0, 2, 2);        // 1
        x.variable(0, 2, 3);        // 2
        x.variable(1, 2, 3);        // 3
        x.term(4, 2, 1);            // 4
        x.term(4, 0, 0);            // 5
        x.event(0, false, 4);
        x.event(0, true, 1);
        x.event(0, false, 2);
        x.session(0, 0, 0, 0);
        x.session(0, 0, 0, 0);
        x.agree(0, 0, 3);
        x.join(0, 1, 1);
        x.begin();
        x.receive(1, 5);
    }
}
