/** Promises 25 to 28. */
public final class SearchTest {
    private static final Due due = new Due();

    public static void main(String[] args) {
        withoutAny();
        nothingToDo();
        brokenAtFirst();
        statesInOrder();
        waysInOrder();
        waysOfStandingOnes();
        noWays();
        firstClaim();
        finished();
        tooManyStates();
        tooManyWays();
        countedAhead();
        sixVariables();
        longestAttack();
        newTermsAreTried();
        needhamSchroeder();
        runStays();
        due.close();
    }

    private static void foundIs(SealProbe x, int states, int ways, int events, int done) {
        due.is("found(0)", x.found(0), states);
        due.is("found(1)", x.found(1), ways);
        due.is("found(2)", x.found(2), events);
        due.is("found(3)", x.found(3), done);
    }

    private static void withoutAny() {
        SealProbe x = new SealProbe();
        foundIs(x, 0, 0, Due.NONE, 0);
        due.is("found(4)", x.found(4), Due.OUTSIDE);
        due.is("found(-1)", x.found(-1), Due.OUTSIDE);
        due.is("attack", x.attack(0), Due.NONE);
        due.is("play", x.play(0), Due.STATE);
        due.is("state ahead of outside", x.play(-1), Due.STATE);
        due.is("no run began", x.told(5), Due.NONE);
    }

    private static void nothingToDo() {
        SealProbe x = new SealProbe();
        due.is("no sessions", x.search(), 0);
        foundIs(x, 1, 0, Due.NONE, 1);
        x.role();
        x.session(0, 0, 0, 0);
        foundIs(x, 0, 0, Due.NONE, 0);
        due.is("no events", x.search(), 0);
        foundIs(x, 1, 0, Due.NONE, 1);
        due.is("no attack", x.play(0), Due.STATE);
    }

    private static void brokenAtFirst() {
        SealProbe x = new SealProbe();
        x.agent(true);
        x.role();
        x.variable(0, 0, 0);
        x.event(0, true, 0);
        x.session(0, 0, 0, 0);
        x.secret(0, 0);
        due.is("an agent is no secret", x.search(), 1);
        foundIs(x, 1, 0, 0, 0);
        due.is("attack", x.attack(0), Due.NONE);
        due.is("play", x.play(0), 0);
        due.is("a run", x.told(5), 0);
        due.is("play", x.play(1), Due.OUTSIDE);
    }

    /** Two sessions of two sends each: a square of nine states. */
    private static void statesInOrder() {
        SealProbe x = new SealProbe();
        x.role();
        int n = x.variable(0, 1, 1);
        int m = x.variable(0, 1, 1);
        x.event(0, true, n);
        x.event(0, true, m);
        x.session(0, 0, 0, 0);
        x.session(0, 0, 0, 0);
        due.is("search", x.search(), 0);
        foundIs(x, 9, 0, Due.NONE, 1);
        x.secret(0, 1);
        due.is("the second one is sent", x.search(), 1);
        foundIs(x, 4, 0, 2, 0);
        due.is("by session 0", x.attack(0), 0);
        due.is("by session 0", x.attack(1), 0);
        due.is("no more", x.attack(2), Due.NONE);
        due.is("none", x.attack(-1), Due.NONE);
        due.is("play(2)", x.play(2), 2);
        due.is("done", x.done(0), 2);
        due.is("broken", x.broken(0), 1);
        due.is("play(1)", x.play(1), 1);
        due.is("not yet", x.broken(0), 0);
        due.is("play(3)", x.play(3), Due.OUTSIDE);
        due.is("play(-1)", x.play(-1), Due.OUTSIDE);
        due.is("the run is as it was", x.done(0), 1);
    }

    /** The first variable from left to right changes last, though it was told last. */
    private static void waysInOrder() {
        SealProbe x = new SealProbe();
        int a = x.agent(true);
        int b = x.agent(true);
        x.role();
        int v = x.variable(0, 2, 0);
        int w = x.variable(0, 2, 0);
        int secret = x.variable(0, 1, 1);
        x.event(0, false, x.term(4, w, v));
        x.event(0, true, x.term(5, secret, x.term(4, x.of(7, 0, v), x.of(7, 0, w))));
        x.session(0, 0, 0, 0);
        due.is("search", x.search(), 0);
        foundIs(x, 1 + 4 + 4, 4, Due.NONE, 4);
        x.know(x.of(7, 0, a));
        x.secret(0, 2);
        due.is("broken when v and w are a", x.search(), 1);
        foundIs(x, 1 + 4 + 1, 4, 2, 1);
        x.play(2);
        due.is("w", x.stands(0, 1), a);
        due.is("v", x.stands(0, 0), a);

        SealProbe y = new SealProbe();
        int good = y.agent(true);
        int bad = y.agent(false);
        y.role();
        int p = y.variable(0, 2, 0);
        int q = y.variable(0, 2, 0);
        int hidden = y.variable(0, 1, 1);
        y.event(0, false, y.term(4, q, p));
        y.event(0, true, y.of(6, hidden, p));
        y.session(0, 0, 0, 0);
        y.secret(0, 2);
        due.is("broken when p is bad", y.search(), 1);
        foundIs(y, 1 + 4 + 2, 4, 2, 2);
        y.play(2);
        due.is("q is the first still", y.stands(0, 1), good);
        due.is("p", y.stands(0, 0), bad);
        due.is("b is another", b, 1);
    }

    private static void waysOfStandingOnes() {
        SealProbe x = new SealProbe();
        int n = x.atom(1);
        x.atom(1);
        x.know(n);
        x.role();
        int v = x.variable(0, 2, 1);
        x.event(0, false, v);
        x.event(0, false, x.term(4, v, v));
        x.event(0, false, n);
        x.session(0, 0, 0, 0);
        due.is("search", x.search(), 0);
        foundIs(x, 4, 2 + 1 + 1, Due.NONE, 1);
    }

    private static void noWays() {
        SealProbe x = new SealProbe();
        for (int i = 0; i < 150; i++) {
            x.agent(true);
        }
        x.role();
        int v = x.variable(0, 2, 0);
        int w = x.variable(0, 2, 0);
        int u = x.variable(0, 2, 0);
        int k = x.variable(0, 2, 2);
        x.event(0, false, x.term(4, x.term(4, v, w), x.term(4, u, k)));
        x.session(0, 0, 0, 0);
        due.is("no key: no way, however many agents", x.search(), 0);
        foundIs(x, 1, 0, Due.NONE, 0);
    }

    private static void firstClaim() {
        SealProbe x = new SealProbe();
        x.agent(true);
        x.role();
        int n = x.variable(0, 1, 1);
        x.variable(0, 1, 1);
        x.event(0, true, n);
        x.session(0, 0, 0, 0);
        x.secret(0, 1);
        x.agree(0, 0, 0);
        x.secret(0, 0);
        due.is("both break, the first counts", x.search(), 2);
        foundIs(x, 2, 0, 1, 1);
    }

    private static void finished() {
        SealProbe x = new SealProbe();
        x.agent(true);
        x.agent(true);
        x.role();
        int v = x.variable(0, 2, 0);
        x.event(0, false, v);
        x.session(0, 0, 0, 0);
        x.session(0, 0, 0, 0);
        due.is("search", x.search(), 0);
        foundIs(x, 9, 2 * 1 + 2 * 1 + 2 * 4, Due.NONE, 4);
    }

    /** Sessions of sends alone: 5 * 5 * 5 * 5 states, 600 of them are gone through. */
    private static void tooManyStates() {
        SealProbe x = new SealProbe();
        int n = x.atom(1);
        x.role();
        for (int k = 0; k < 4; k++) {
            x.event(0, true, n);
        }
        for (int s = 0; s < 3; s++) {
            x.session(0, 0, 0, 0);
        }
        due.is("125 states", x.search(), 0);
        foundIs(x, 125, 0, Due.NONE, 1);
        x.session(0, 0, 0, 0);
        due.is("625 states", x.search(), Due.OPEN);
        foundIs(x, 600, 0, Due.NONE, 0);
        due.is("no attack", x.attack(0), Due.NONE);
        due.is("no attack", x.play(0), Due.STATE);

        SealProbe y = new SealProbe();
        y.role();
        int v = y.variable(0, 2, 0);
        y.event(0, false, v);
        y.role();
        y.event(1, true, y.agent(true));
        while (y.told(0) < 25) {
            y.agent(true);
        }
        y.session(0, 0, 0, 0);
        y.session(0, 0, 0, 0);
        due.is("25 * 25 states", y.search(), Due.OPEN);
        foundIs(y, 600, 24 * 2 + 23 * 24, Due.NONE, 600 - 49);
    }

    private static void tooManyWays() {
        SealProbe x = new SealProbe();
        x.role();
        int v = x.variable(0, 2, 1);
        int w = x.variable(0, 2, 1);
        x.event(0, false, x.term(4, v, w));
        x.role();
        int u = x.variable(1, 2, 2);
        x.event(1, false, u);
        for (int i = 0; i < 141; i++) {
            x.atom(1);
        }
        x.session(0, 0, 0, 0);
        due.is("141 * 141 ways", x.search(), 0);
        foundIs(x, 1, 19881, Due.NONE, 0);
        x.atom(1);
        due.is("142 * 142 ways", x.search(), Due.OPEN);
        foundIs(x, 1, 20001, Due.NONE, 0);
    }

    /** 100 * 200 ways are 20,000: they are looked at; one more is too many. */
    private static void countedAhead() {
        SealProbe x = new SealProbe();
        x.role();
        int v = x.variable(0, 2, 1);
        int w = x.variable(0, 2, 2);
        x.event(0, false, x.term(4, v, w));
        x.role();
        for (int i = 0; i < 100; i++) {
            x.atom(2);
        }
        for (int i = 0; i < 50; i++) {
            x.atom(1);
        }
        for (int s = 0; s < 4; s++) {
            x.session(0, 0, 0, 0);
        }
        due.is("four times 5,000", x.search(), 0);
        foundIs(x, 1, 20000, Due.NONE, 0);
        x.know(10);
        x.know(150);
        due.is("one of them can be made", x.search(), Due.OPEN);
        foundIs(x, 5, 20001, Due.NONE, 0);
    }

    /** All six VARIABLES of a ROLE are received at once. */
    private static void sixVariables() {
        SealProbe x = new SealProbe();
        int a = x.agent(true);
        int b = x.agent(true);
        x.role();
        int all = x.variable(0, 2, 0);
        for (int v = 1; v < 6; v++) {
            all = x.term(4, all, x.variable(0, 2, 0));
        }
        x.event(0, false, all);
        x.session(0, 0, 0, 0);
        due.is("search", x.search(), 0);
        foundIs(x, 65, 64, Due.NONE, 64);
        x.begin();
        int pairs = b;
        for (int v = 1; v < 6; v++) {
            pairs = x.term(4, pairs, v == 3 ? a : b);
        }
        due.is("receive", x.receive(0, pairs), 1);
        for (int v = 0; v < 6; v++) {
            due.is("stands", x.stands(0, v), v == 3 ? a : b);
        }
    }

    /** The longest that there is: each SESSION waits for the one ahead of it. */
    private static void longestAttack() {
        SealProbe x = new SealProbe();
        int last = x.atom(1);
        x.know(last);
        for (int r = 0; r < 4; r++) {
            x.role();
            x.event(r, false, last);
            for (int k = 1; k < 5; k++) {
                x.event(r, true, last);
            }
            last = x.atom(1);
            x.event(r, true, last);
            x.variable(r, 1, 1);
        }
        for (int s = 0; s < 4; s++) {
            x.session(s, 0, 0, 0);
        }
        x.agree(3, 3, 0);
        due.is("search", x.search(), 1);
        foundIs(x, 25, 4 + 6 * 3 + 6 * 2 + 6, 24, 1);
        for (int k = 0; k < 24; k++) {
            due.is("attack", x.attack(k), k / 6);
        }
        due.is("no more", x.attack(24), Due.NONE);
        due.is("play", x.play(24), 5);
        due.is("too far", x.play(25), Due.OUTSIDE);
        for (int k = 23; k >= 0; k--) {
            due.is("undo", x.undo(), k);
        }
        due.is("row", x.row(1, 0), Due.NONE);
    }

    private static void newTermsAreTried() {
        SealProbe x = new SealProbe();
        int n = x.atom(1);
        x.know(n);
        x.role();
        int v = x.variable(0, 2, 3);
        x.event(0, false, x.term(9, v, 0));
        x.session(0, 0, 0, 0);
        due.is("search", x.search(), 0);
        foundIs(x, 2, 1, Due.NONE, 1);
        x.term(4, n, n);
        foundIs(x, 2, 1, Due.NONE, 1);
        due.is("search", x.search(), 0);
        foundIs(x, 3, 2, Due.NONE, 2);
    }

    /** As in the shared test, with a man in the middle; and mended as Lowe did. */
    private static SealProbe needham(boolean mended) {
        SealProbe x = new SealProbe();
        x.agent(true);
        x.agent(true);
        x.agent(false);
        x.role();
        int a = x.variable(0, 0, 0);
        int b = x.variable(0, 0, 0);
        int na = x.variable(0, 1, 1);
        int gotB = x.variable(0, 2, 1);
        x.role();
        int me = x.variable(1, 0, 0);
        int other = x.variable(1, 0, 0);
        int nb = x.variable(1, 1, 1);
        int gotA = x.variable(1, 2, 1);
        x.event(0, true, x.of(6, x.term(4, na, a), b));
        int answer = x.term(4, na, gotB);
        x.event(0, false, x.of(6, mended ? x.term(4, answer, b) : answer, a));
        x.event(0, true, x.of(6, gotB, b));
        x.event(1, false, x.of(6, x.term(4, gotA, other), me));
        int reply = x.term(4, gotA, nb);
        x.event(1, true, x.of(6, mended ? x.term(4, reply, me) : reply, other));
        x.event(1, false, x.of(6, nb, me));
        x.session(0, 0, 2, 0);
        x.session(1, 1, 0, 0);
        x.secret(1, 2);
        return x;
    }

    private static void needhamSchroeder() {
        SealProbe x = needham(false);
        due.is("broken", x.search(), 1);
        foundIs(x, 12, 16, 5, 0);
        int[] path = {0, 1, 1, 0, 0};
        for (int k = 0; k < 5; k++) {
            due.is("attack(" + k + ")", x.attack(k), path[k]);
        }
        for (int n = 0; n <= 5; n++) {
            x.play(n);
            due.is("events", x.told(5), n);
            due.is("broken after " + n, x.broken(0), n == 5 ? 1 : 0);
        }
        due.is("undo", x.undo(), 4);
        due.is("not any more", x.broken(0), 0);
        due.is("again by hand", x.send(0), 7);
        due.is("broken", x.broken(0), 1);
        x.search();
        due.is("the run stays", x.told(5), 5);

        SealProbe y = needham(true);
        due.is("mended", y.search(), 0);
        due.is("no attack", y.found(2), Due.NONE);
        y.agree(1, 0, 3);
        due.is("mended", y.search(), 0);
    }

    private static void runStays() {
        SealProbe x = needham(false);
        x.begin();
        due.is("send", x.send(0), 4);
        due.is("broken", x.search(), 1);
        due.is("the row", x.row(3, 0), 0);
        due.is("the row", x.row(4, 0), Due.NONE);
        due.is("done", x.done(0), 1);
        due.is("a run goes on", x.send(0), Due.NO);
        due.is("claims as they are", x.search(), 1);
        x.end();
        due.is("found stays", x.found(2), 5);
        due.is("clear", x.clear() > 0);
        foundIs(x, 0, 0, Due.NONE, 0);
        due.is("gone", x.play(0), Due.STATE);
    }
}
