/** Promises 15 to 24, but for when CLAIMS are BROKEN (ClaimsTest). */
public final class RunTest {
    private static final Due due = new Due();

    public static void main(String[] args) {
        beginAndEnd();
        sendAndReceive();
        received();
        sorts();
        matching();
        whatIsMade();
        rowInOrder();
        rowTakenApartAgain();
        rowAgainForOneOfTwo();
        rowOfLocksAndSigns();
        rowMakesTerms();
        rowMakesInOrder();
        rowIsFull();
        rowTooBig();
        rowJustNotTooBig();
        deepest();
        undone();
        due.close();
    }

    private static void beginAndEnd() {
        SealProbe x = new SealProbe();
        due.is("no run", x.end(), Due.STATE);
        due.is("no sessions", x.begin(), 0);
        due.is("no events", x.end(), 0);
        int n = x.atom(1);
        x.role();
        x.event(0, true, n);
        x.session(0, 0, 0, 0);
        x.session(0, 0, 0, 0);
        due.is("two sessions", x.begin(), 2);
        due.is("send", x.send(0), 1);
        due.is("send, the same again", x.send(1), 1);
        due.is("told(5)", x.told(5), 2);
        due.is("anew", x.begin(), 2);
        due.is("none done", x.done(0), 0);
        due.is("none sent", x.makes(n), 0);
        due.is("told(5)", x.told(5), 0);
        x.send(1);
        due.is("end", x.end(), 1);
        due.is("ended", x.end(), Due.STATE);
        due.is("done without a run", x.done(0), Due.STATE);
        due.is("stands without a run", x.stands(0, 0), Due.UNKNOWN);
        due.is("undo without a run", x.undo(), Due.STATE);
        due.is("makes without a run", x.makes(n), Due.STATE);
        due.is("row without a run", x.row(0, 0), Due.STATE);
        due.is("outside ahead of no run", x.row(0, 5), Due.OUTSIDE);
    }

    private static void sendAndReceive() {
        SealProbe x = new SealProbe();
        int n = x.atom(1);
        int o = x.atom(1);
        x.role();
        int v = x.variable(0, 2, 3);
        x.event(0, true, n);
        x.event(0, false, v);
        x.event(0, true, x.term(9, v, 0));
        x.session(0, 0, 0, 0);
        due.is("no run", x.send(0), Due.STATE);
        due.is("no run", x.receive(0, n), Due.STATE);
        due.is("unknown ahead of no run", x.send(1), Due.UNKNOWN);
        due.is("unknown ahead of no run", x.receive(0, 99), Due.UNKNOWN);
        x.begin();
        due.is("no session", x.send(-1), Due.UNKNOWN);
        due.is("no session", x.receive(1, n), Due.UNKNOWN);
        due.is("no term", x.receive(0, -1), Due.UNKNOWN);
        due.is("it does not receive", x.receive(0, n), Due.NO);
        due.is("send", x.send(0), 1);
        due.is("done", x.done(0), 1);
        due.is("it does not send", x.send(0), Due.NO);
        due.is("not made", x.receive(0, o), Due.NO);
        due.is("not ground", x.receive(0, v), Due.NO);
        due.is("stands for nothing", x.stands(0, 0), Due.NONE);
        due.is("receive", x.receive(0, n), 2);
        due.is("stands", x.stands(0, 0), n);
        due.is("send", x.send(0), 2);
        due.is("none left", x.send(0), Due.NO);
        due.is("none left", x.receive(0, n), Due.NO);
        due.is("done", x.done(0), 3);
        due.is("no session", x.done(1), Due.UNKNOWN);
        due.is("no session", x.stands(1, 0), Due.UNKNOWN);
        due.is("no variable", x.stands(0, 1), Due.UNKNOWN);
        due.is("no variable", x.stands(0, -1), Due.UNKNOWN);
        x.end();
        due.is("no run", x.stands(0, 0), Due.STATE);
        due.is("unknown ahead of no run", x.done(4), Due.UNKNOWN);
    }

    private static void received() {
        SealProbe x = new SealProbe();
        int n = x.atom(1);
        int o = x.atom(1);
        x.know(n);
        x.know(o);
        x.role();
        int v = x.variable(0, 2, 3);
        int w = x.variable(0, 2, 3);
        x.event(0, false, x.term(4, v, x.term(4, w, v)));
        x.event(0, false, x.term(5, v, w));
        x.session(0, 0, 0, 0);
        int same = x.term(4, n, x.term(4, o, n));
        int not = x.term(4, n, x.term(4, n, o));
        x.begin();
        due.is("one variable, two terms", x.receive(0, not), Due.NO);
        due.is("it stands for nothing", x.stands(0, 0), Due.NONE);
        due.is("not a pair", x.receive(0, n), Due.NO);
        due.is("one variable, one term", x.receive(0, same), 1);
        due.is("v", x.stands(0, 0), n);
        due.is("w", x.stands(0, 1), o);
        due.is("as they stand", x.receive(0, x.term(5, o, n)), Due.NO);
        due.is("as they stand", x.receive(0, x.term(5, n, o)), 2);
    }

    private static void sorts() {
        SealProbe x = new SealProbe();
        int[] terms = {x.agent(true), x.atom(1), x.atom(2), 0};
        terms[3] = x.term(4, 0, 1);
        x.know(1);
        x.know(2);
        for (int sort = 0; sort < 4; sort++) {
            x.role();
            x.event(sort, false, x.variable(sort, 2, sort));
            x.session(sort, 0, 0, 0);
        }
        x.begin();
        for (int sort = 0; sort < 4; sort++) {
            for (int kind = 0; kind < 4; kind++) {
                boolean may = sort == 3 || sort == kind;
                due.is("sort " + sort + ", term " + kind, x.receive(sort, terms[kind]), may ? 1 : Due.NO);
                if (may) {
                    due.is("stands", x.stands(sort, 0), terms[kind]);
                    x.undo();
                }
            }
        }
    }

    private static void matching() {
        SealProbe x = new SealProbe();
        int a = x.agent(true);
        int b = x.agent(true);
        int n = x.atom(1);
        x.know(n);
        x.know(x.of(7, 0, a));
        x.role();
        int p = x.variable(0, 0, 0);
        int who = x.variable(0, 2, 0);
        int what = x.variable(0, 2, 1);
        x.event(0, false, x.of(6, what, p));
        x.event(0, false, x.of(8, x.term(9, what, 0), who));
        x.event(0, false, x.of(7, 0, who));
        x.session(0, b, 0, 0);
        x.begin();
        due.is("for another", x.receive(0, x.of(6, n, a)), Due.NO);
        due.is("for it", x.receive(0, x.of(6, n, b)), 1);
        due.is("can't be signed by b", x.receive(0, x.of(8, x.term(9, n, 0), b)), Due.NO);
        due.is("not of the hash", x.receive(0, x.of(8, n, a)), Due.NO);
        due.is("signed by a", x.receive(0, x.of(8, x.term(9, n, 0), a)), 2);
        due.is("who", x.stands(0, 1), a);
        due.is("another's private", x.receive(0, x.of(7, 0, b)), Due.NO);
        due.is("its private", x.receive(0, x.of(7, 0, a)), 3);
    }

    private static void whatIsMade() {
        SealProbe x = new SealProbe();
        int good = x.agent(true);
        int bad = x.agent(false);
        int n = x.atom(1);
        int k = x.atom(2);
        int o = x.atom(1);
        x.role();
        int v = x.variable(0, 2, 3);
        x.know(n);
        int sealed = x.term(5, o, k);
        x.know(sealed);
        int signed = x.of(8, n, good);
        x.know(signed);
        x.begin();
        due.is("in it", x.makes(n), 1);
        due.is("not in it", x.makes(o), 0);
        due.is("an agent", x.makes(good), 1);
        due.is("a key", x.makes(k), 0);
        due.is("pair", x.makes(x.term(4, n, bad)), 1);
        due.is("pair", x.makes(x.term(4, n, k)), 0);
        due.is("pair", x.makes(x.term(4, o, n)), 0);
        due.is("seal", x.makes(x.term(5, n, good)), 1);
        due.is("seal by what is not made", x.makes(x.term(5, n, k)), 0);
        due.is("seal of what is not made", x.makes(x.term(5, o, n)), 0);
        due.is("seal in it", x.makes(sealed), 1);
        due.is("hash", x.makes(x.term(9, n, 0)), 1);
        due.is("hash", x.makes(x.term(9, o, 0)), 0);
        due.is("lock", x.makes(x.of(6, n, good)), 1);
        due.is("lock", x.makes(x.of(6, o, bad)), 0);
        due.is("private", x.makes(x.of(7, 0, good)), 0);
        due.is("private of one not honest", x.makes(x.of(7, 0, bad)), 1);
        due.is("sign", x.makes(x.of(8, n, bad)), 1);
        due.is("sign", x.makes(x.of(8, o, bad)), 0);
        due.is("sign by an honest one", x.makes(x.of(8, good, good)), 0);
        due.is("sign in it", x.makes(signed), 1);
        due.is("pair of a sign in it", x.makes(x.term(4, signed, sealed)), 1);
        due.is("not ground", x.makes(v), Due.NO);
        due.is("no term", x.makes(99), Due.UNKNOWN);
        x.end();
        x.know(x.of(7, 0, good));
        x.begin();
        due.is("its private is known", x.makes(x.of(8, good, good)), 1);
        x.end();
        due.is("unknown ahead of no run", x.makes(-1), Due.UNKNOWN);
        due.is("no run ahead of not ground", x.makes(v), Due.STATE);
    }

    private static void rowIs(SealProbe x, int[][] want) {
        for (int i = 0; i < want.length; i++) {
            for (int what = 0; what < 5; what++) {
                due.is("row(" + i + ", " + what + ")", x.row(i, what), want[i][what]);
            }
        }
        due.is("behind the last", x.row(want.length, 0), Due.NONE);
        due.is("behind the last", x.row(want.length, 4), Due.NONE);
    }

    private static void rowInOrder() {
        SealProbe x = new SealProbe();
        int a = x.atom(1);
        int b = x.atom(1);
        int c = x.atom(1);
        int bc = x.term(4, b, c);
        int abc = x.term(4, a, bc);
        x.know(abc);
        x.role();
        x.event(0, true, c);
        x.event(0, true, abc);
        x.event(0, true, x.term(9, c, 0));
        x.session(0, 0, 0, 0);
        due.is("begin", x.begin(), 1);
        rowIs(x, new int[][] {{4, 5, 0, Due.NONE, abc}, {1, 1, 2, 0, a}, {4, 3, 3, 0, bc}, {1, 1, 2, 2, b},
            {1, 1, 3, 2, c}});
        due.is("sent ahead of what is got", x.send(0), 5);
        rowIs(x, new int[][] {{4, 5, 0, Due.NONE, abc}, {1, 1, 1, Due.NONE, c}, {1, 1, 2, 0, a}, {4, 3, 3, 0, bc},
            {1, 1, 2, 3, b}});
        due.is("each once", x.send(0), 5);
        due.is("hash", x.send(0), 6);
        due.is("it came third", x.row(2, 0), 9);
        due.is("the pair's place is another", x.row(5, 3), 4);
        due.is("no such place", x.row(-1, 4), Due.NONE);
        due.is("what", x.row(0, -1), Due.OUTSIDE);
        due.is("outside ahead of none", x.row(99, 5), Due.OUTSIDE);
    }

    /** The key comes behind the seal, so that it is opened when the row is gone through again. */
    private static void rowTakenApartAgain() {
        SealProbe x = new SealProbe();
        int k = x.atom(2);
        int n = x.atom(1);
        int m = x.atom(1);
        int inner = x.term(5, m, n);
        int sealed = x.term(5, n, k);
        int pair = x.term(4, k, inner);
        int wrapped = x.term(5, pair, x.agent(true));
        x.know(sealed);
        x.know(wrapped);
        x.begin();
        rowIs(x, new int[][] {{5, 3, 0, Due.NONE, sealed}, {5, 7, 0, Due.NONE, wrapped}, {4, 5, 4, 1, pair},
            {2, 1, 2, 2, k}, {5, 3, 3, 2, inner}, {1, 1, 4, 0, n}, {1, 1, 4, 4, m}});
        x.end();

        SealProbe y = new SealProbe();
        int key = y.atom(2);
        int compound = y.term(9, key, 0);
        int s = y.term(5, y.atom(1), compound);
        y.know(s);
        y.begin();
        due.is("closed", y.row(1, 0), Due.NONE);
        y.end();
        y.know(key);
        y.begin();
        due.is("a key that is put together", y.row(2, 4), 2);
    }

    /** A pair of which but one brings something new lets the row be gone through again, too. */
    private static void rowAgainForOneOfTwo() {
        for (int way = 0; way < 2; way++) {
            SealProbe x = new SealProbe();
            int k = x.atom(2);
            int n = x.atom(1);
            int old = x.atom(1);
            x.know(x.term(5, n, k));
            x.know(x.term(4, way == 0 ? k : old, way == 0 ? old : k));
            x.know(old);
            x.begin();
            due.is("the key", x.row(3, 4), k);
            due.is("out of the seal", x.row(4, 4), n);
            due.is("no more", x.row(5, 0), Due.NONE);
        }
    }

    private static void rowOfLocksAndSigns() {
        SealProbe x = new SealProbe();
        int good = x.agent(true);
        int bad = x.agent(false);
        int n = x.atom(1);
        int o = x.atom(1);
        int p = x.atom(1);
        int forBad = x.of(6, n, bad);
        int forGood = x.of(6, o, good);
        int signed = x.of(8, p, good);
        int itsPrivate = x.of(7, 0, good);
        x.know(forGood);
        x.know(forBad);
        x.know(signed);
        x.role();
        x.event(0, true, itsPrivate);
        x.session(0, 0, 0, 0);
        x.begin();
        rowIs(x, new int[][] {{6, 3, 0, Due.NONE, forGood}, {6, 3, 0, Due.NONE, forBad}, {8, 3, 0, Due.NONE, signed},
            {1, 1, 5, 1, n}, {1, 1, 6, 2, p}});
        due.is("send", x.send(0), 7);
        due.is("opened", x.row(4, 4), o);
        due.is("by the private", x.row(4, 3), 0);
        due.is("of a lock", x.row(4, 2), 5);
    }

    private static void rowMakesTerms() {
        SealProbe x = new SealProbe();
        x.role();
        int n = x.variable(0, 1, 1);
        int k = x.variable(0, 1, 2);
        int hash = x.term(9, n, 0);
        x.event(0, true, x.term(4, x.term(5, hash, k), hash));
        x.session(0, 0, 0, 0);
        x.begin();
        due.is("terms", x.told(0), 7);
        due.is("pair, seal, hash", x.send(0), 3);
        due.is("nothing was made", x.told(0), 7);
        due.is("size", x.row(0, 1), 7);
        due.is("the pair", x.row(0, 4), 9);
        due.is("terms", x.told(0), 10);
        due.is("the hash is made first", x.about(7, 0), 9);
        due.is("then the seal", x.about(8, 0), 5);
        due.is("the pair of", x.about(9, 1), 8);
        due.is("the pair of", x.about(9, 2), 7);
        due.is("it is there now", x.row(0, 4), 9);
        due.is("the hash", x.row(2, 4), 7);
        due.is("made by hand", x.term(9, 5, 0), 7);
        due.is("it is made", x.makes(7), 1);
        due.is("its place", x.row(2, 3), 0);
    }

    /** What was sent first does not count: the first one is made ahead of the second. */
    private static void rowMakesInOrder() {
        SealProbe x = new SealProbe();
        x.role();
        int n = x.variable(0, 1, 1);
        int m = x.variable(0, 1, 1);
        int second = x.term(9, m, 0);
        int first = x.term(9, n, 0);
        x.event(0, true, second);
        x.event(0, true, x.term(4, first, second));
        x.session(0, 0, 0, 0);
        x.begin();
        x.send(0);
        x.send(0);
        int had = x.told(0);
        due.is("the pair", x.row(1, 4), had + 2);
        due.is("the first one", x.about(had, 1), x.stands(0, 0));
        due.is("the second one", x.about(had + 1, 1), x.stands(0, 1));
    }

    private static void rowIsFull() {
        SealProbe x = new SealProbe();
        x.role();
        int n = x.variable(0, 1, 1);
        int hash = x.term(9, n, 0);
        x.event(0, true, x.term(4, hash, x.term(9, hash, 0)));
        x.session(0, 0, 0, 0);
        while (x.told(0) < 198) {
            x.atom(1);
        }
        x.begin();
        due.is("send", x.send(0), 3);
        due.is("three do not fit", x.row(0, 4), Due.FULL);
        due.is("none was made", x.told(0), 198);
        due.is("two do", x.row(2, 4), 199);
        due.is("both were made", x.told(0), 200);
        due.is("no room", x.row(0, 4), Due.FULL);
        due.is("it is there", x.row(1, 4), 198);
        due.is("other things are told", x.row(0, 1), 6);
    }

    private static void rowTooBig() {
        SealProbe x = new SealProbe();
        int n = x.atom(1);
        int big = n;
        for (int size = 2; size <= 12; size++) {
            big = x.term(9, big, 0);
        }
        x.know(n);
        x.role();
        int v = x.variable(0, 2, 3);
        x.event(0, false, v);
        x.event(0, true, x.term(4, x.term(4, v, v), n));
        x.event(0, true, x.term(9, x.term(9, v, 0), 0));
        x.session(0, 0, 0, 0);
        x.begin();
        due.is("receive", x.receive(0, big), 1);
        due.is("known, sent, two of the pairs", x.send(0), 4);
        due.is("size", x.row(1, 1), 27);
        due.is("kind", x.row(1, 0), 4);
        due.is("too big", x.row(1, 4), Due.NO);
        due.is("size", x.row(2, 1), 25);
        due.is("too big", x.row(2, 4), Due.NO);
        due.is("from", x.row(2, 3), 1);
        due.is("not too big", x.row(3, 4), big);
        int had = x.told(0);
        x.send(0);
        due.is("not too big", x.row(2, 4), had + 1);
        while (x.told(0) < 200) {
            x.atom(1);
        }
        due.is("full ahead of no", x.row(1, 4), Due.FULL);
    }

    private static void rowJustNotTooBig() {
        SealProbe x = new SealProbe();
        int eleven = x.atom(1);
        x.know(eleven);
        for (int size = 2; size <= 11; size++) {
            eleven = x.term(9, eleven, 0);
        }
        x.role();
        int v = x.variable(0, 2, 3);
        x.event(0, false, v);
        x.event(0, true, x.term(4, x.term(9, v, 0), v));
        x.session(0, 0, 0, 0);
        x.begin();
        due.is("receive", x.receive(0, eleven), 1);
        x.send(0);
        due.is("size", x.row(1, 1), 24);
        int had = x.told(0);
        due.is("made", x.row(1, 4), had + 1);
        due.is("its size", x.about(had + 1, 3), 24);
    }

    /** The deepest that there can be: a TERM of SIZE 24 in one of SIZE 24. */
    private static void deepest() {
        SealProbe x = new SealProbe();
        int n = x.atom(1);
        x.know(n);
        x.role();
        int v = x.variable(0, 2, 3);
        int pattern = v;
        int inside = n;
        for (int size = 2; size <= 24; size++) {
            pattern = x.term(9, pattern, 0);
            inside = x.term(9, inside, 0);
        }
        x.event(0, false, v);
        x.event(0, true, pattern);
        x.event(0, false, pattern);
        int sealed = x.term(5, n, v);
        x.event(0, true, sealed);
        x.session(0, 0, 0, 0);
        x.begin();
        due.is("receive", x.receive(0, inside), 1);
        due.is("send", x.send(0), 2);
        due.is("size", x.row(1, 1), 47);
        due.is("too big", x.row(1, 4), Due.NO);
        x.end();
        x.search();
        due.is("each of the 24 ground terms is received", x.found(3), 24);
    }

    private static void undone() {
        SealProbe x = new SealProbe();
        int n = x.atom(1);
        x.know(n);
        x.role();
        int v = x.variable(0, 2, 3);
        int w = x.variable(0, 2, 3);
        x.event(0, false, v);
        x.event(0, true, x.term(9, v, 0));
        x.event(0, false, x.term(4, v, w));
        x.session(0, 0, 0, 0);
        x.session(0, 0, 0, 0);
        x.begin();
        due.is("none", x.undo(), Due.NO);
        x.receive(0, n);
        x.receive(1, n);
        x.send(0);
        due.is("receive", x.receive(0, x.term(4, n, n)), 3);
        due.is("w", x.stands(0, 1), n);
        due.is("undo", x.undo(), 3);
        due.is("w stands for nothing", x.stands(0, 1), Due.NONE);
        due.is("v stands", x.stands(0, 0), n);
        due.is("done", x.done(0), 2);
        due.is("the row", x.row(1, 0), 9);
        due.is("undo", x.undo(), 2);
        due.is("the row", x.row(1, 0), Due.NONE);
        due.is("undo of the other", x.undo(), 1);
        due.is("done", x.done(1), 0);
        due.is("it stands for nothing", x.stands(1, 0), Due.NONE);
        due.is("the first one", x.stands(0, 0), n);
        due.is("undo", x.undo(), 0);
        due.is("none", x.undo(), Due.NO);
        due.is("told(5)", x.told(5), 0);
    }
}
