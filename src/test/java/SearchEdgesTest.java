/** THE SEARCH: its limits, asked just inside, at, and just outside of each, and the order of all that it does. */
public final class SearchEdgesTest {
    private static final Due due = new Due();
    private static final int NONE = Due.NONE;

    public static void main(String[] args) {
        states599();
        states600();
        states601();
        brokenInThe600th();
        statesWithinOneEvent();
        ways20000();
        waysCountedAhead();
        waysThatWrap();
        waysOfOneEvent();
        firstVariableChangesLast();
        fromLeftToRight();
        firstFoundPath();
        claimsByNumbers();
        zeroIsAsked();
        allDone();
        whatThereIs();
        inItThoughNotItsParts();
        whatIsGone();
        whatIsNotGone();
        theLatestCounts();
        playEach();
        playTheEarlierParts();
        othersFirst();
        waysThatAreMade();
        rowsApart();
        playAnew();
        due.close();
    }

    private static void foundIs(SealProbe x, int states, int ways, int events, int done) {
        due.is("found(0)", x.found(0), states);
        due.is("found(1)", x.found(1), ways);
        due.is("found(2)", x.found(2), events);
        due.is("found(3)", x.found(3), done);
    }

    private static void noAttack(SealProbe x) {
        due.is("attack(0)", x.attack(0), NONE);
        due.is("play(0)", x.play(0), Due.STATE);
        due.is("no run", x.told(5), NONE);
    }

    /**
     * Four ROLES: the first three send 4, 4, 3 TERMS, each the atom 0 but for the last one, the atoms
     * 1, 2, 3; the fourth, still to be told its last EVENTS, sends atom 4 four times: 5 * 5 * 4 * 5 STATES.
     */
    private static SealProbe lattice() {
        SealProbe x = new SealProbe();
        for (int t = 0; t < 6; t++) {
            x.atom(2);
        }
        int[] sends = {4, 4, 3, 4};
        for (int r = 0; r < 4; r++) {
            x.role();
            for (int k = 0; k < sends[r]; k++) {
                x.event(r, true, r == 3 ? 4 : k < sends[r] - 1 ? 0 : r + 1);
            }
        }
        return x;
    }

    private static void sessions(SealProbe x) {
        for (int s = 0; s < 4; s++) {
            x.session(s, 0, 0, 0);
        }
    }

    /** The fifth EVENT of the last one waits for any of the others: all but one of 600 STATES. */
    private static void states599() {
        SealProbe x = lattice();
        x.event(3, false, 0);
        sessions(x);
        due.is("search", x.search(), 0);
        foundIs(x, 599, 100, NONE, 1);
        noAttack(x);
    }

    private static void states600() {
        SealProbe x = lattice();
        x.event(3, true, 4);
        sessions(x);
        due.is("search", x.search(), 0);
        foundIs(x, 600, 0, NONE, 1);
        noAttack(x);

        SealProbe y = lattice();
        y.event(3, true, 4);
        y.event(3, false, 5);
        sessions(y);
        due.is("a sixth that is never made", y.search(), 0);
        foundIs(y, 600, 100, NONE, 0);
        noAttack(y);
    }

    /** The sixth EVENT of the last one waits for all the others: it would lead to one STATE more. */
    private static void states601() {
        SealProbe x = lattice();
        x.event(3, true, 4);
        x.event(3, false, x.term(4, 1, x.term(4, 2, 3)));
        sessions(x);
        due.is("search", x.search(), Due.OPEN);
        foundIs(x, 600, 100, NONE, 0);
        noAttack(x);
        x.agree(3, 3, 0);
        due.is("that would be broken in the 601st", x.search(), Due.OPEN);
        foundIs(x, 600, 100, NONE, 0);
        noAttack(x);
    }

    private static void brokenInThe600th() {
        SealProbe x = lattice();
        int f = x.variable(3, 1, 1);
        x.event(3, true, x.term(5, x.term(5, x.term(5, f, 1), 2), 3));
        sessions(x);
        x.secret(3, 0);
        due.is("search", x.search(), 1);
        foundIs(x, 600, 0, 16, 1);
        due.is("play", x.play(16), 5 + 4);
        due.is("broken", x.broken(0), 1);
        due.is("play", x.play(15), 5);
        due.is("not yet", x.broken(0), 0);
    }

    /** One EVENT that receives leads to more STATES than may be: 599 of them are found. */
    private static void statesWithinOneEvent() {
        SealProbe x = new SealProbe();
        x.role();
        int v = x.variable(0, 2, 0);
        int w = x.variable(0, 2, 0);
        x.event(0, false, x.term(4, v, w));
        for (int a = 0; a < 24; a++) {
            x.agent(true);
        }
        x.session(0, 0, 0, 0);
        due.is("577 states", x.search(), 0);
        foundIs(x, 577, 576, NONE, 576);
        x.agent(true);
        due.is("626 states", x.search(), Due.OPEN);
        foundIs(x, 600, 625, NONE, 599);
        noAttack(x);
    }

    /** 9 * 22 * 101 ways, and one for each SESSION more: 19,998 up to 20,001. */
    private static void ways20000() {
        SealProbe x = new SealProbe();
        for (int a = 0; a < 9; a++) {
            x.agent(true);
        }
        for (int n = 0; n < 22; n++) {
            x.atom(1);
        }
        for (int k = 0; k < 101; k++) {
            x.atom(2);
        }
        x.role();
        int pair = x.term(4, x.variable(0, 2, 0), x.variable(0, 2, 1));
        x.event(0, false, x.term(4, pair, x.variable(0, 2, 2)));
        x.role();
        x.event(1, false, 9);
        for (int s = 0; s < 4; s++) {
            x.session(s == 0 ? 0 : 1, 0, 0, 0);
            due.is(s + " more", x.search(), s < 3 ? 0 : Due.OPEN);
            foundIs(x, 1, 19998 + s, NONE, 0);
            noAttack(x);
        }
    }

    /** The ways of an EVENT are counted ahead of the first of them. */
    private static void waysCountedAhead() {
        for (int agents = 5; agents <= 6; agents++) {
            SealProbe x = new SealProbe();
            for (int a = 0; a < agents; a++) {
                x.agent(true);
            }
            x.role();
            int all = x.variable(0, 2, 0);
            for (int v = 1; v < 6; v++) {
                all = x.term(4, all, x.variable(0, 2, 0));
            }
            x.event(0, false, all);
            x.session(0, 0, 0, 0);
            due.is("too many states, or ways", x.search(), Due.OPEN);
            foundIs(x, agents == 5 ? 600 : 1, agents == 5 ? 15625 : 20001, NONE, agents == 5 ? 599 : 0);
            noAttack(x);
            x.agree(0, 0, 0);
            due.is("the first way would break it", x.search(), agents == 5 ? 1 : Due.OPEN);
            foundIs(x, agents == 5 ? 2 : 1, agents == 5 ? 15625 : 20001, agents == 5 ? 1 : NONE, agents == 5 ? 1 : 0);
        }
    }

    /** 64 to the sixth is 0 in 32 bits; it is more than 20,000 all the same. */
    private static void waysThatWrap() {
        for (int agents = 16; agents <= 128; agents *= 2) {
            SealProbe x = new SealProbe();
            for (int a = 0; a < agents; a++) {
                x.agent(true);
            }
            x.role();
            int all = x.variable(0, 2, 0);
            for (int v = 1; v < 6; v++) {
                all = x.term(4, all, x.variable(0, 2, 3));
            }
            x.event(0, false, all);
            x.role();
            x.event(1, false, 0);
            x.session(1, 0, 0, 0);
            x.session(0, 0, 0, 0);
            due.is("search", x.search(), Due.OPEN);
            foundIs(x, 2, 20001, NONE, 0);
        }
    }

    /** Ways of one EVENT: for each VARIABLE once, for none that stands, 1 without any, 0 without a TERM. */
    private static void waysOfOneEvent() {
        SealProbe x = new SealProbe();
        x.agent(true);
        x.agent(true);
        int n = x.atom(1);
        x.role();
        int v = x.variable(0, 2, 0);
        x.event(0, false, x.term(4, v, x.term(4, v, v)));
        x.session(0, 0, 0, 0);
        x.search();
        foundIs(x, 3, 2, NONE, 2);
        x.role();
        x.event(1, false, n);
        x.session(1, 0, 0, 0);
        x.search();
        foundIs(x, 3, 2 + 3, NONE, 0);
        x.role();
        x.event(2, false, x.term(4, x.variable(2, 2, 0), x.variable(2, 2, 2)));
        x.session(2, 0, 0, 0);
        x.search();
        foundIs(x, 3, 2 + 3 + 0, NONE, 0);
        x.atom(2);
        x.search();
        foundIs(x, 3, 2 + 3 + 3 * 2, NONE, 0);
        x.know(n);
        x.search();
        foundIs(x, 6, 2 + 2 + 3 + 6 * 2, NONE, 0);
    }

    /**
     * Receives a TERM of v and w, then sends what leaks only if they stand for just i and j: so many
     * STATES are found ahead of it.
     */
    private static void leakAt(int kind, boolean turned, int i, int j) {
        SealProbe x = new SealProbe();
        int hidden = x.atom(2);
        int[] one = new int[3];
        int[] two = new int[3];
        for (int k = 0; k < 3; k++) {
            one[k] = x.atom(1);
            x.know(one[k]);
        }
        for (int k = 0; k < 3; k++) {
            two[k] = kind < 6 ? one[k] : x.agent(false);
        }
        x.role();
        int sort = kind < 6 ? 1 : 0;
        int first = x.variable(0, 2, turned ? sort : 1);
        int second = x.variable(0, 2, turned ? 1 : sort);
        int v = turned ? second : first;
        int w = turned ? first : second;
        int f = x.variable(0, 1, 2);
        x.event(0, false, kind < 6 ? x.term(kind, v, w) : x.of(kind, v, w));
        x.event(0, true, x.term(5, f, x.term(5, x.term(4, v, w), hidden)));
        x.know(x.term(5, x.term(4, one[i], two[j]), hidden));
        x.session(0, 0, 0, 0);
        x.secret(0, 2);
        due.is("search", x.search(), 1);
        foundIs(x, 1 + 9 + 3 * i + j + 1, 9, 2, 3 * i + j + 1);
        x.play(2);
        due.is("v", x.stands(0, turned ? 1 : 0), one[i]);
        due.is("w", x.stands(0, turned ? 0 : 1), two[j]);
    }

    private static void firstVariableChangesLast() {
        for (int kind : new int[] {4, 5, 6, 8}) {
            for (int place = 0; place < 9; place++) {
                leakAt(kind, false, place / 3, place % 3);
                leakAt(kind, true, place / 3, place % 3);
            }
        }
    }

    /** v is within a HASH on the left, and again on the right: its place is where it stands first. */
    private static void fromLeftToRight() {
        SealProbe x = new SealProbe();
        int hidden = x.atom(2);
        int n = x.atom(1);
        int m = x.atom(1);
        x.know(n);
        x.know(m);
        x.role();
        int w = x.variable(0, 2, 1);
        int v = x.variable(0, 2, 1);
        int f = x.variable(0, 1, 2);
        x.event(0, false, x.term(4, x.term(9, v, 0), x.term(4, w, v)));
        x.event(0, true, x.term(5, f, x.term(5, x.term(4, v, w), hidden)));
        x.know(x.term(5, x.term(4, n, m), hidden));
        x.know(x.term(5, x.term(4, m, n), hidden));
        x.session(0, 0, 0, 0);
        x.secret(0, 2);
        due.is("search", x.search(), 1);
        foundIs(x, 1 + 4 + 2, 4, 2, 2);
        x.play(2);
        due.is("v", x.stands(0, 1), n);
        due.is("w", x.stands(0, 0), m);
    }

    /** It breaks when all have sent: the STATES on the way were found by the lower numbers first. */
    private static void firstFoundPath() {
        SealProbe x = new SealProbe();
        for (int r = 0; r < 4; r++) {
            x.role();
            x.event(r, true, x.atom(2));
        }
        int f = x.variable(0, 1, 1);
        x.event(0, true, x.term(5, x.term(5, x.term(5, f, 1), 2), 3));
        int[] roles = {2, 0, 3, 1};
        for (int r : roles) {
            x.session(r, 0, 0, 0);
        }
        x.secret(0, 0);
        due.is("search", x.search(), 1);
        foundIs(x, 24, 0, 5, 1);
        int[] path = {0, 1, 1, 2, 3};
        for (int k = 0; k < 5; k++) {
            due.is("attack(" + k + ")", x.attack(k), path[k]);
        }
        due.is("no more", x.attack(5), NONE);
        due.is("none ahead", x.attack(-1), NONE);
    }

    private static void claimsByNumbers() {
        SealProbe x = new SealProbe();
        x.role();
        int f = x.variable(0, 1, 1);
        int g = x.variable(0, 1, 1);
        x.event(0, true, f);
        x.event(0, true, g);
        x.session(0, 0, 0, 0);
        x.secret(0, 1);
        due.is("claim 0", x.search(), 1);
        foundIs(x, 3, 0, 2, 1);
        x.secret(0, 0);
        due.is("claim 1 breaks in a state ahead", x.search(), 2);
        foundIs(x, 2, 0, 1, 0);
        x.secret(0, 0);
        due.is("claim 2 breaks, too, claim 1 counts", x.search(), 2);
        x.agree(0, 0, 6);
        x.agree(0, 0, 0);
        x.secret(0, 1);
        due.is("six claims", x.search(), 2);
        foundIs(x, 2, 0, 1, 0);
    }

    /** The sixth CLAIM, and it alone, is BROKEN in STATE 0. */
    private static void zeroIsAsked() {
        SealProbe x = new SealProbe();
        x.agent(true);
        x.role();
        x.variable(0, 0, 0);
        int f = x.variable(0, 1, 1);
        x.event(0, true, f);
        x.session(0, 0, 0, 0);
        for (int c = 0; c < 5; c++) {
            x.secret(0, 1);
        }
        x.secret(0, 0);
        due.is("claim 5", x.search(), 6);
        foundIs(x, 1, 0, 0, 0);
        due.is("attack(0)", x.attack(0), NONE);
        due.is("play(0)", x.play(0), 0);
        due.is("a run", x.told(5), 0);
        due.is("play(1)", x.play(1), Due.OUTSIDE);
        due.is("play(-1)", x.play(-1), Due.OUTSIDE);
    }

    /** STATES in which all SESSIONS have done all: none, some, the very first, the one that breaks. */
    private static void allDone() {
        SealProbe x = new SealProbe();
        x.search();
        foundIs(x, 1, 0, NONE, 1);
        x.agent(true);
        x.agent(true);
        x.role();
        x.session(0, 0, 0, 0);
        x.search();
        foundIs(x, 1, 0, NONE, 1);
        x.role();
        x.event(1, false, x.variable(1, 2, 0));
        x.session(1, 0, 0, 0);
        x.search();
        foundIs(x, 3, 2, NONE, 2);
        x.role();
        x.event(2, false, x.atom(1));
        x.session(2, 0, 0, 0);
        x.search();
        foundIs(x, 3, 2 + 3, NONE, 0);
        x.know(x.told(0) - 1);
        x.search();
        foundIs(x, 6, 2 + 3 + 2, NONE, 2);
        x.agree(1, 1, 0);
        due.is("broken", x.search(), 1);
        foundIs(x, 2, 2, 1, 0);
    }

    /** GROUND TERMS that there are: one that was sent and has no number is not among them. */
    private static void whatThereIs() {
        SealProbe x = new SealProbe();
        x.role();
        int f = x.variable(0, 1, 1);
        int v = x.variable(0, 2, 3);
        x.event(0, true, x.term(9, f, 0));
        x.event(0, false, v);
        x.session(0, 0, 0, 0);
        due.is("search", x.search(), 0);
        foundIs(x, 2, 1, NONE, 0);
        x.begin();
        x.send(0);
        due.is("the search makes none", x.told(0), 4);
        due.is("it gets a number", x.row(0, 4), 4);
        due.is("found stays", x.found(0), 2);
        due.is("search", x.search(), 0);
        foundIs(x, 3, 2, NONE, 1);
        due.is("the run stays", x.told(5), 1);
    }

    /** THE ROW MAKES the HASH that is in it, though not what it is of. */
    private static void inItThoughNotItsParts() {
        SealProbe x = new SealProbe();
        x.atom(1);
        x.role();
        int f = x.variable(0, 1, 1);
        int v = x.variable(0, 2, 1);
        x.event(0, true, x.term(9, f, 0));
        x.event(0, false, x.term(9, v, 0));
        x.session(0, 0, 0, 0);
        x.agree(0, 0, 0);
        due.is("search", x.search(), 1);
        foundIs(x, 3, 2, 2, 1);
        due.is("play", x.play(2), 1);
        due.is("v stands for the secret one", x.stands(0, 1), x.stands(0, 0));
        due.is("that is not made", x.makes(x.stands(0, 0)), 0);
    }

    private static SealProbe searched() {
        SealProbe x = new SealProbe();
        x.agent(true);
        x.atom(1);
        x.role();
        x.role();
        x.variable(0, 1, 1);
        x.event(0, true, 2);
        x.session(0, 0, 0, 0);
        x.secret(0, 0);
        due.is("search", x.search(), 1);
        foundIs(x, 2, 0, 1, 1);
        return x;
    }

    private static void whatIsGone() {
        SealProbe x = searched();
        due.is("know", x.know(1), 1);
        foundIs(x, 0, 0, NONE, 0);
        noAttack(x);
        SealProbe y = searched();
        due.is("session", y.session(0, 0, 0, 0), 1);
        foundIs(y, 0, 0, NONE, 0);
        noAttack(y);
        SealProbe z = searched();
        due.is("clear", z.clear(), 4);
        foundIs(z, 0, 0, NONE, 0);
        noAttack(z);
    }

    private static void whatIsNotGone() {
        SealProbe x = searched();
        x.agent(false);
        x.atom(2);
        x.term(4, 0, 1);
        x.of(7, 0, 0);
        x.role();
        x.variable(1, 2, 3);
        x.event(1, true, 0);
        x.agree(0, 0, 0);
        x.join(1, 0, 0);
        x.secret(0, 0);
        foundIs(x, 2, 0, 1, 1);
        x.begin();
        x.send(0);
        x.row(0, 4);
        x.undo();
        foundIs(x, 2, 0, 1, 1);
        x.end();
        foundIs(x, 2, 0, 1, 1);
        due.is("attack(0)", x.attack(0), 0);
        due.is("play(1)", x.play(1), 1);
        foundIs(x, 2, 0, 1, 1);
        due.is("broken", x.broken(0), 1);
    }

    private static void theLatestCounts() {
        SealProbe x = new SealProbe();
        x.agent(true);
        x.role();
        int v = x.variable(0, 2, 0);
        x.event(0, false, v);
        x.session(0, 0, 0, 0);
        due.is("search", x.search(), 0);
        foundIs(x, 2, 1, NONE, 1);
        x.agree(0, 0, 0);
        due.is("search", x.search(), 1);
        foundIs(x, 2, 1, 1, 1);
        x.know(0);
        due.is("search", x.search(), 1);
        for (int a = 1; a < 190; a++) {
            x.agent(true);
        }
        due.is("search", x.search(), 1);
        foundIs(x, 2, 190, 1, 1);
    }

    /** Each part of an ATTACK, with what was received in it. */
    private static void playEach() {
        SealProbe x = new SealProbe();
        int n = x.atom(1);
        x.know(n);
        x.role();
        int f = x.variable(0, 1, 2);
        int v = x.variable(0, 2, 1);
        x.event(0, true, x.term(5, f, n));
        x.event(0, false, v);
        x.session(0, 0, 0, 0);
        x.agree(0, 0, 0);
        due.is("search", x.search(), 1);
        foundIs(x, 3, 1, 2, 1);
        int[] rows = {1, 3, 3};
        for (int k = 2; k >= 0; k--) {
            due.is("play(" + k + ")", x.play(k), rows[k]);
            due.is("events", x.told(5), k);
            due.is("done", x.done(0), k);
            due.is("v", x.stands(0, 1), k == 2 ? n : NONE);
            due.is("broken", x.broken(0), k == 2 ? 1 : 0);
        }
        due.is("play(3)", x.play(3), Due.OUTSIDE);
        due.is("the run stays", x.told(5), 0);
        due.is("play(-1)", x.play(-1), Due.OUTSIDE);
        due.is("the run stays", x.told(5), 0);
        x.play(2);
        due.is("undo", x.undo(), 1);
        due.is("v", x.stands(0, 1), NONE);
        due.is("by hand", x.receive(0, n), 2);
        due.is("end", x.end(), 2);
        due.is("play(1)", x.play(1), 3);
    }

    /** VARIABLE 0 comes to stand last: it stands for nothing in the parts ahead. */
    private static void playTheEarlierParts() {
        SealProbe x = new SealProbe();
        int n = x.atom(1);
        x.know(n);
        x.role();
        int v = x.variable(0, 2, 1);
        int w = x.variable(0, 2, 1);
        x.event(0, true, n);
        x.event(0, false, w);
        x.event(0, false, x.term(9, w, 0));
        x.event(0, false, v);
        x.session(0, 0, 0, 0);
        x.agree(0, 0, 0);
        due.is("search", x.search(), 1);
        for (int k = 0; k <= 4; k++) {
            due.is("play", x.play(k), 1);
            due.is("v", x.stands(0, 0), k == 4 ? n : NONE);
            due.is("w", x.stands(0, 1), k >= 2 ? n : NONE);
        }
    }

    /** The ATTACK does not begin with SESSION 0, which waits for ever. */
    private static void othersFirst() {
        SealProbe x = new SealProbe();
        int never = x.atom(1);
        x.role();
        x.event(0, false, never);
        x.role();
        int f = x.variable(1, 1, 1);
        x.event(1, true, f);
        x.session(0, 0, 0, 0);
        x.session(0, 0, 0, 0);
        x.session(1, 0, 0, 0);
        x.secret(1, 0);
        due.is("search", x.search(), 1);
        foundIs(x, 2, 2, 1, 0);
        due.is("attack(0)", x.attack(0), 2);
        due.is("attack(1)", x.attack(1), NONE);
        due.is("play", x.play(1), 1);
        due.is("done", x.done(2), 1);
        due.is("not done", x.done(0), 0);
    }

    private static int madeWays(int kind, boolean itsPrivate, boolean within) {
        SealProbe x = new SealProbe();
        int good = x.agent(true);
        x.agent(false);
        int n = x.atom(1);
        x.atom(1);
        x.know(n);
        if (itsPrivate) {
            x.know(x.of(7, 0, good));
        }
        x.role();
        int v = x.variable(0, 2, 1);
        int w = x.variable(0, 2, kind == 4 || kind == 5 ? 1 : 0);
        int t = kind == 4 || kind == 5 || kind == 9 ? x.term(kind, v, w) : x.of(kind, v, w);
        x.event(0, false, within ? x.term(9, x.term(4, n, t), 0) : t);
        x.session(0, 0, 0, 0);
        due.is("search", x.search(), 0);
        due.is("ways of kind " + kind, x.found(1), kind == 7 || kind == 9 ? 2 : 4);
        due.is("all done", x.found(3), x.found(0) - 1);
        return x.found(3);
    }

    /** Of TERMS that are not there, with what is made and what is not: the ways that lead on. */
    private static void waysThatAreMade() {
        int[] kinds = {4, 5, 6, 7, 8, 9};
        int[] made = {1, 1, 2, 1, 1, 1};
        int[] madeWithPrivate = {1, 1, 2, 2, 2, 1};
        for (int i = 0; i < 6; i++) {
            for (int within = 0; within < 2; within++) {
                due.is("kind " + kinds[i], madeWays(kinds[i], false, within == 1), made[i]);
                due.is("kind " + kinds[i] + ", the private", madeWays(kinds[i], true, within == 1), madeWithPrivate[i]);
            }
        }
    }

    /** THE ROW of a RUN, with TERMS that have no number, is not touched by a search. */
    private static void rowsApart() {
        SealProbe x = new SealProbe();
        x.role();
        x.role();
        int f = x.variable(0, 1, 1);
        int g = x.variable(1, 1, 1);
        x.event(0, true, x.term(9, f, 0));
        x.event(0, false, x.term(9, f, 0));
        x.event(1, true, x.term(4, x.term(9, g, 0), x.term(5, g, g)));
        x.event(1, false, x.term(5, g, g));
        x.session(0, 0, 0, 0);
        x.session(1, 0, 0, 0);
        x.secret(0, 0);
        x.begin();
        x.send(1);
        due.is("send", x.send(0), 4);
        int[] kind = {4, 9, 9, 5};
        int[] size = {6, 2, 2, 3};
        int[] from = {NONE, NONE, 0, 0};
        for (int round = 0; round < 2; round++) {
            for (int i = 0; i < 4; i++) {
                due.is("kind", x.row(i, 0), kind[i]);
                due.is("size", x.row(i, 1), size[i]);
                due.is("from", x.row(i, 3), from[i]);
            }
            due.is("search", x.search(), 0);
            foundIs(x, 9, 6, NONE, 1);
        }
        due.is("the pair", x.row(0, 4), x.told(0) - 1);
        due.is("of a hash", x.about(x.about(x.told(0) - 1, 1), 0), 9);
        due.is("of g", x.about(x.about(x.told(0) - 1, 1), 1), x.stands(1, 0));
    }

    private static void playAnew() {
        SealProbe x = searched();
        x.begin();
        x.send(0);
        due.is("events", x.told(5), 1);
        due.is("play(0)", x.play(0), 0);
        due.is("events", x.told(5), 0);
        due.is("send", x.send(0), 1);
        due.is("play(1)", x.play(1), 1);
        due.is("events", x.told(5), 1);
        due.is("a run: no session", x.session(0, 0, 0, 0), Due.STATE);
        due.is("a run: know", x.know(1), Due.STATE);
        due.is("the attack stays", x.found(2), 1);
    }
}
