/** What THE ROW has and MAKES, and what may be received: the edges of each sentence of it. */
public final class RowEdgesTest {
    private static final Due due = new Due();
    private static final int NONE = Due.NONE;

    public static void main(String[] args) {
        emptyRow();
        eachOnce();
        pairsOfOne();
        passByPass();
        keyAheadAndBehind();
        keysThatAreMade();
        locksAndPrivates();
        privateThatComesLater();
        whatIsNotTakenApart();
        howEachCame();
        sentInOrder();
        manyPlaces();
        manyPlacesAgain();
        keyPutTogetherLater();
        deepKey();
        agentsInOthers();
        groundOrNot();
        madeOfTwo();
        madeBySigning();
        sizeOfPlaces();
        standingOnesReceived();
        agentsReceived();
        sessionsApart();
        refusedHalfway();
        begunAnew();
        undoneToTheFirst();
        due.close();
    }

    /** Each row of want: kind, SIZE, how it came, from where, TERM. */
    private static void rowIs(SealProbe x, int[][] want) {
        for (int i = 0; i < want.length; i++) {
            for (int what = 0; what < 5; what++) {
                due.is("row(" + i + ", " + what + ")", x.row(i, what), want[i][what]);
            }
        }
        for (int what = 0; what < 5; what++) {
            due.is("behind the last", x.row(want.length, what), NONE);
        }
    }

    private static void emptyRow() {
        SealProbe x = new SealProbe();
        int good = x.agent(true);
        int bad = x.agent(false);
        int nonce = x.atom(1);
        int key = x.atom(2);
        due.is("no sessions", x.begin(), 0);
        rowIs(x, new int[][] {});
        due.is("an agent", x.makes(good), 1);
        due.is("an agent that is not honest", x.makes(bad), 1);
        due.is("a nonce", x.makes(nonce), 0);
        due.is("a key", x.makes(key), 0);
        due.is("private of an honest one", x.makes(x.of(7, 0, good)), 0);
        due.is("private of one that is not", x.makes(x.of(7, 0, bad)), 1);
        due.is("lock of an agent", x.makes(x.of(6, bad, good)), 1);
        due.is("sign of an agent by an honest one", x.makes(x.of(8, bad, good)), 0);
        due.is("sign of an agent by one that is not", x.makes(x.of(8, good, bad)), 1);
        due.is("undo", x.undo(), Due.NO);
        due.is("end", x.end(), 0);
    }

    private static void eachOnce() {
        SealProbe x = new SealProbe();
        int n = x.atom(1);
        int m = x.atom(1);
        int pair = x.term(4, n, m);
        x.know(n);
        x.role();
        x.event(0, true, n);
        x.event(0, true, pair);
        x.event(0, true, m);
        x.event(0, true, pair);
        x.session(0, 0, 0, 0);
        x.begin();
        rowIs(x, new int[][] {{1, 1, 0, NONE, n}});
        due.is("known and sent", x.send(0), 1);
        rowIs(x, new int[][] {{1, 1, 0, NONE, n}});
        due.is("the first one is there", x.send(0), 3);
        rowIs(x, new int[][] {{1, 1, 0, NONE, n}, {4, 3, 1, NONE, pair}, {1, 1, 3, 1, m}});
        due.is("what was got is sent", x.send(0), 3);
        rowIs(x, new int[][] {{1, 1, 0, NONE, n}, {4, 3, 1, NONE, pair}, {1, 1, 1, NONE, m}});
        due.is("sent again", x.send(0), 3);
        due.is("four events", x.told(5), 4);
        x.undo();
        x.undo();
        due.is("got again", x.row(2, 2), 3);
    }

    private static void pairsOfOne() {
        SealProbe x = new SealProbe();
        int n = x.atom(1);
        int twice = x.term(4, n, n);
        int more = x.term(4, twice, twice);
        x.know(more);
        x.begin();
        rowIs(x, new int[][] {{4, 7, 0, NONE, more}, {4, 3, 2, 0, twice}, {1, 1, 2, 1, n}});
    }

    /** Each pass opens one seal: what came in the last one lets there be another. */
    private static void passByPass() {
        SealProbe x = new SealProbe();
        int[] key = new int[5];
        for (int k = 0; k < 5; k++) {
            key[k] = x.atom(2);
        }
        int[] seal = new int[4];
        for (int k = 3; k >= 0; k--) {
            seal[k] = x.term(5, key[k + 1], key[k]);
            x.know(seal[k]);
        }
        x.begin();
        due.is("no key, none is opened", x.row(4, 0), NONE);
        x.end();
        x.know(key[0]);
        x.begin();
        rowIs(x, new int[][] {{5, 3, 0, NONE, seal[3]}, {5, 3, 0, NONE, seal[2]}, {5, 3, 0, NONE, seal[1]},
            {5, 3, 0, NONE, seal[0]}, {2, 1, 0, NONE, key[0]}, {2, 1, 4, 3, key[1]}, {2, 1, 4, 2, key[2]},
            {2, 1, 4, 1, key[3]}, {2, 1, 4, 0, key[4]}});
    }

    /** What is behind its key is opened as the place is passed; what is ahead of it waits for the next pass. */
    private static void keyAheadAndBehind() {
        SealProbe x = new SealProbe();
        int k = x.atom(2);
        int n = x.atom(1);
        int m = x.atom(1);
        int p = x.atom(1);
        int ahead = x.term(5, n, k);
        int brings = x.term(4, k, p);
        int behind = x.term(5, m, k);
        x.know(ahead);
        x.know(brings);
        x.know(behind);
        x.begin();
        rowIs(x, new int[][] {{5, 3, 0, NONE, ahead}, {4, 3, 0, NONE, brings}, {5, 3, 0, NONE, behind},
            {2, 1, 2, 1, k}, {1, 1, 3, 1, p}, {1, 1, 4, 2, m}, {1, 1, 4, 0, n}});
    }

    private static void keysThatAreMade() {
        SealProbe x = new SealProbe();
        int good = x.agent(true);
        int bad = x.agent(false);
        int n = x.atom(1);
        int[] inside = new int[8];
        for (int i = 0; i < 8; i++) {
            inside[i] = x.atom(1);
        }
        int[] keys = {good, x.term(4, good, n), x.term(9, n, 0), x.of(6, n, good), x.of(7, 0, bad), x.of(8, n, bad),
            x.of(7, 0, good), x.of(8, n, good)};
        for (int i = 0; i < 8; i++) {
            x.know(x.term(5, inside[i], keys[i]));
        }
        x.begin();
        int[] byItself = {1, 0, 0, 0, 1, 0, 0, 0};
        for (int i = 0; i < 8; i++) {
            due.is("key " + i + " alone", x.makes(inside[i]), byItself[i]);
        }
        x.end();
        x.know(n);
        x.begin();
        for (int i = 0; i < 8; i++) {
            due.is("key " + i + " with n", x.makes(inside[i]), i < 6 ? 1 : 0);
        }
        x.end();
        x.know(keys[6]);
        x.begin();
        for (int i = 0; i < 8; i++) {
            due.is("key " + i + " with n and the private", x.makes(inside[i]), 1);
        }
    }

    private static void locksAndPrivates() {
        SealProbe x = new SealProbe();
        int good = x.agent(true);
        int other = x.agent(true);
        int bad = x.agent(false);
        int n = x.atom(1);
        int m = x.atom(1);
        int p = x.atom(1);
        int forGood = x.of(6, n, good);
        int forOther = x.of(6, m, other);
        int forBad = x.of(6, p, bad);
        int its = x.of(7, 0, good);
        x.know(forGood);
        x.know(forOther);
        x.know(forBad);
        x.begin();
        rowIs(x, new int[][] {{6, 3, 0, NONE, forGood}, {6, 3, 0, NONE, forOther}, {6, 3, 0, NONE, forBad},
            {1, 1, 5, 2, p}});
        x.end();
        x.know(its);
        x.begin();
        rowIs(x, new int[][] {{6, 3, 0, NONE, forGood}, {6, 3, 0, NONE, forOther}, {6, 3, 0, NONE, forBad},
            {7, 2, 0, NONE, its}, {1, 1, 5, 0, n}, {1, 1, 5, 2, p}});
        due.is("the other's private opens nothing", x.makes(m), 0);
    }

    /** The PRIVATE comes out of a SIGN behind the LOCK. */
    private static void privateThatComesLater() {
        SealProbe x = new SealProbe();
        int good = x.agent(true);
        int n = x.atom(1);
        int lock = x.of(6, n, good);
        int its = x.of(7, 0, good);
        int sign = x.of(8, its, good);
        x.know(lock);
        x.know(sign);
        x.begin();
        rowIs(x, new int[][] {{6, 3, 0, NONE, lock}, {8, 4, 0, NONE, sign}, {7, 2, 6, 1, its}, {1, 1, 5, 0, n}});
    }

    private static void whatIsNotTakenApart() {
        SealProbe x = new SealProbe();
        int good = x.agent(true);
        int n = x.atom(1);
        int k = x.atom(2);
        int hash = x.term(9, n, 0);
        int seal = x.term(5, n, k);
        int itself = x.term(5, k, k);
        int its = x.of(7, 0, good);
        x.know(hash);
        x.know(seal);
        x.know(itself);
        x.know(its);
        x.begin();
        rowIs(x, new int[][] {{9, 2, 0, NONE, hash}, {5, 3, 0, NONE, seal}, {5, 3, 0, NONE, itself},
            {7, 2, 0, NONE, its}});
        due.is("what a hash is of", x.makes(n), 0);
        due.is("the hash", x.makes(hash), 1);
        due.is("the key of a seal", x.makes(k), 0);
    }

    private static void howEachCame() {
        SealProbe x = new SealProbe();
        int bad = x.agent(false);
        int known = x.term(4, x.atom(1), x.atom(1));
        int sent = x.term(5, x.of(6, x.of(8, x.atom(1), bad), bad), bad);
        x.know(known);
        x.role();
        x.event(0, true, sent);
        x.session(0, 0, 0, 0);
        x.begin();
        due.is("send", x.send(0), 7);
        int[] how = {0, 1, 2, 3, 4, 5, 6};
        int[] from = {NONE, NONE, 0, 0, 1, 4, 5};
        int[] size = {3, 7, 1, 1, 5, 3, 1};
        int[] kind = {4, 5, 1, 1, 6, 8, 1};
        for (int i = 0; i < 7; i++) {
            due.is("kind of " + i, x.row(i, 0), kind[i]);
            due.is("size of " + i, x.row(i, 1), size[i]);
            due.is("how " + i + " came", x.row(i, 2), how[i]);
            due.is("from where " + i + " came", x.row(i, 3), from[i]);
        }
    }

    /** What was sent stands in the order of the RUN, not of the SESSIONS. */
    private static void sentInOrder() {
        SealProbe x = new SealProbe();
        x.role();
        int f = x.variable(0, 1, 1);
        x.event(0, true, f);
        x.event(0, true, x.term(9, f, 0));
        x.session(0, 0, 0, 0);
        x.session(0, 0, 0, 0);
        x.begin();
        x.send(1);
        x.send(0);
        x.send(0);
        x.send(1);
        due.is("first", x.row(0, 4), x.stands(1, 0));
        due.is("second", x.row(1, 4), x.stands(0, 0));
        due.is("third", x.row(2, 4), x.term(9, x.stands(0, 0), 0));
        due.is("fourth", x.row(3, 4), x.term(9, x.stands(1, 0), 0));
        x.begin();
        x.send(0);
        x.send(1);
        due.is("the other way", x.row(0, 4), x.stands(0, 0));
        due.is("the other way", x.row(1, 4), x.stands(1, 0));
    }

    /** The most that can be: 20 known, 24 sent, each of them of SIZE 23 and all of it new. */
    private static void manyPlaces() {
        SealProbe x = new SealProbe();
        x.role();
        int[] fresh = new int[6];
        for (int v = 0; v < 6; v++) {
            fresh[v] = x.variable(0, 1, 1);
        }
        for (int k = 0; k < 6; k++) {
            int t = fresh[k];
            for (int pairs = 0; pairs < 11; pairs++) {
                t = x.term(4, t, fresh[(k + pairs) % 6]);
            }
            due.is("its size", x.about(t, 3), 23);
            x.event(0, true, t);
        }
        for (int s = 0; s < 4; s++) {
            x.session(0, 0, 0, 0);
        }
        for (int t = 0; t < 20; t++) {
            x.know(x.atom(2));
        }
        x.begin();
        int last = 0;
        for (int s = 0; s < 4; s++) {
            for (int k = 0; k < 6; k++) {
                last = x.send(s);
            }
        }
        due.is("known, sent, ten pairs in each, the fresh ones", last, 20 + 24 + 24 * 10 + 24);
        due.is("the last place: a pair of what is there", x.row(last - 1, 1), 3);
        due.is("no more", x.row(last, 1), NONE);
        due.is("size", x.row(20, 1), 23);
        due.is("size", x.row(43, 1), 23);
        due.is("how the next came", x.row(44, 2), 2);
        due.is("from where", x.row(44, 3), 20);
    }

    /** What has no number is there once, too, though it is sent by many EVENTS. */
    private static void manyPlacesAgain() {
        SealProbe x = new SealProbe();
        x.role();
        int[] fresh = new int[6];
        for (int v = 0; v < 6; v++) {
            fresh[v] = x.variable(0, 1, 1);
        }
        int[] sent = new int[3];
        for (int k = 0; k < 3; k++) {
            sent[k] = fresh[k];
            for (int pairs = 0; pairs < 11; pairs++) {
                sent[k] = x.term(4, sent[k], fresh[(k + pairs) % 6]);
            }
        }
        for (int k = 0; k < 6; k++) {
            x.event(0, true, sent[k < 3 ? k : 5 - k]);
        }
        for (int s = 0; s < 4; s++) {
            x.session(0, 0, 0, 0);
        }
        x.begin();
        int last = 0;
        for (int k = 0; k < 6; k++) {
            for (int s = 0; s < 4; s++) {
                last = x.send(s);
            }
        }
        due.is("twelve that were sent, ten pairs in each, the fresh ones", last, 12 + 12 * 10 + 24);
        due.is("how the twelfth came", x.row(11, 2), 1);
        due.is("how the next came", x.row(12, 2), 2);
    }

    /** The key is a HASH of what comes out of a PAIR behind it; so it is in each RUN, and in THE SEARCH. */
    private static void keyPutTogetherLater() {
        SealProbe x = new SealProbe();
        int k = x.atom(2);
        int n = x.atom(1);
        int m = x.atom(1);
        int seal = x.term(5, n, x.term(9, x.term(4, k, k), 0));
        x.know(seal);
        int pair = x.term(4, m, k);
        x.role();
        x.event(0, true, pair);
        x.role();
        x.event(1, false, n);
        x.session(0, 0, 0, 0);
        x.session(1, 0, 0, 0);
        for (int round = 0; round < 3; round++) {
            x.begin();
            due.is("no key", x.makes(n), 0);
            due.is("send", x.send(0), 5);
            rowIs(x, new int[][] {{5, 6, 0, NONE, seal}, {4, 3, 1, NONE, pair}, {1, 1, 2, 1, m}, {2, 1, 3, 1, k},
                {1, 1, 4, 0, n}});
            due.is("made", x.makes(n), 1);
            due.is("receive", x.receive(1, n), 1);
        }
        due.is("search", x.search(), 0);
        due.is("states", x.found(0), 3);
        due.is("all done", x.found(3), 1);
    }

    /** A key that is deeper than any TERM: 21 HASHES of what stands for 23 HASHES of n. */
    private static void deepKey() {
        SealProbe x = new SealProbe();
        int n = x.atom(1);
        int m = x.atom(2);
        x.know(n);
        int deep = n;
        for (int size = 2; size <= 24; size++) {
            deep = x.term(9, deep, 0);
        }
        x.role();
        int v = x.variable(0, 2, 3);
        int f = x.variable(0, 1, 1);
        int key = v;
        for (int size = 2; size <= 22; size++) {
            key = x.term(9, key, 0);
        }
        int sealed = x.term(5, f, key);
        due.is("its size", x.about(sealed, 3), 24);
        x.event(0, false, v);
        x.event(0, true, sealed);
        x.session(0, 0, 0, 0);
        x.begin();
        due.is("receive", x.receive(0, deep), 1);
        due.is("it is opened", x.send(0), 3);
        due.is("size", x.row(1, 1), 1 + 1 + 21 + 24);
        due.is("out of the seal", x.row(2, 4), x.stands(0, 1));
        x.end();
        x.secret(0, 1);
        due.is("search", x.search(), 1);
        due.is("known, then opened", x.play(2), 3);
        due.is("m is not", x.makes(m), 0);
    }

    /** An AGENT within others does not bring its PRIVATE. */
    private static void agentsInOthers() {
        SealProbe x = new SealProbe();
        int good = x.agent(true);
        int n = x.atom(1);
        int o = x.atom(1);
        x.know(x.term(4, good, n));
        x.know(x.term(4, n, good));
        x.know(x.term(5, good, n));
        x.know(x.term(9, good, 0));
        x.know(x.of(6, good, good));
        x.know(x.of(8, good, good));
        x.know(x.of(6, o, good));
        x.know(good);
        x.begin();
        due.is("its private", x.makes(x.of(7, 0, good)), 0);
        due.is("signed by it", x.makes(x.of(8, n, good)), 0);
        due.is("locked for it", x.makes(o), 0);
        due.is("what it signed", x.makes(x.of(8, good, good)), 1);
    }

    private static void groundOrNot() {
        SealProbe x = new SealProbe();
        int a = x.agent(true);
        int n = x.atom(1);
        x.role();
        int v = x.variable(0, 2, 3);
        int who = x.variable(0, 0, 0);
        int f = x.variable(0, 1, 2);
        int[] ground = {a, n, x.term(4, a, n), x.term(5, a, n), x.of(6, n, a), x.of(7, 0, a), x.of(8, n, a),
            x.term(9, n, 0), x.term(9, x.term(4, n, x.of(6, n, a)), 0)};
        int[] not = {v, who, f, x.term(4, v, n), x.term(4, n, v), x.term(5, f, n), x.term(5, n, f), x.of(6, v, a),
            x.of(6, n, who), x.of(7, 0, who), x.of(8, f, a), x.of(8, n, who), x.term(9, v, 0),
            x.term(9, x.term(4, n, x.of(6, n, who)), 0)};
        for (int t : ground) {
            due.is("ground: " + t, x.about(t, 4), 1);
        }
        for (int t : not) {
            due.is("not ground: " + t, x.about(t, 4), 0);
            due.is("it can't be known", x.know(t), Due.NO);
        }
        x.begin();
        for (int t : ground) {
            due.is("made or not: " + t, x.makes(t) >= 0);
        }
        for (int t : not) {
            due.is("not ground: " + t, x.makes(t), Due.NO);
        }
        x.end();
        for (int i = 0; i < ground.length; i++) {
            due.is("it can be known", x.know(ground[i]), i + 1);
        }
    }

    /** Of a PAIR and a SEAL both are asked for; of a LOCK and a HASH but one. */
    private static void madeOfTwo() {
        SealProbe x = new SealProbe();
        int a = x.agent(true);
        int n = x.atom(1);
        int o = x.atom(1);
        x.know(n);
        x.begin();
        for (int kind = 4; kind <= 5; kind++) {
            due.is("both", x.makes(x.term(kind, n, n)), 1);
            due.is("the first one alone", x.makes(x.term(kind, n, o)), 0);
            due.is("the second one alone", x.makes(x.term(kind, o, n)), 0);
            due.is("none", x.makes(x.term(kind, o, o)), 0);
        }
        due.is("lock", x.makes(x.of(6, n, a)), 1);
        due.is("lock", x.makes(x.of(6, o, a)), 0);
        due.is("hash", x.makes(x.term(9, n, 0)), 1);
        due.is("hash", x.makes(x.term(9, o, 0)), 0);
        int can = n;
        int not = o;
        for (int size = 2; size <= 24; size++) {
            can = x.term(9, can, 0);
            not = x.term(9, not, 0);
        }
        due.is("of size 24", x.makes(can), 1);
        due.is("of size 24", x.makes(not), 0);
        x.end();
        int pair = x.term(4, o, o);
        int hidden = x.term(5, pair, o);
        x.know(hidden);
        x.know(x.term(9, o, 0));
        x.begin();
        due.is("what is in it, though its parts can't be made", x.makes(hidden), 1);
        due.is("a pair of such", x.makes(x.term(4, hidden, x.term(9, o, 0))), 1);
        due.is("its part", x.makes(pair), 0);
    }

    private static void madeBySigning() {
        SealProbe x = new SealProbe();
        int good = x.agent(true);
        int other = x.agent(true);
        int bad = x.agent(false);
        int n = x.atom(1);
        int o = x.atom(1);
        int its = x.of(7, 0, good);
        x.know(n);
        x.begin();
        due.is("by an honest one", x.makes(x.of(8, n, good)), 0);
        due.is("by one that is not", x.makes(x.of(8, n, bad)), 1);
        due.is("of what is not made", x.makes(x.of(8, o, bad)), 0);
        x.end();
        x.know(its);
        x.begin();
        due.is("its private is there", x.makes(x.of(8, n, good)), 1);
        due.is("of what is not made", x.makes(x.of(8, o, good)), 0);
        due.is("by another", x.makes(x.of(8, n, other)), 0);
        due.is("the private", x.makes(its), 1);
        due.is("another's private", x.makes(x.of(7, 0, other)), 0);
        x.end();
        int there = x.of(8, o, other);
        x.know(there);
        x.begin();
        due.is("it is there", x.makes(there), 1);
        due.is("what it is of came out", x.makes(o), 1);
        due.is("not by the other again", x.makes(x.of(8, n, other)), 0);
    }

    /** What is sent may be of any SIZE; TERMS are made of those up to 24. */
    private static void sizeOfPlaces() {
        int[] inner = {22, 23, 24};
        for (int size : inner) {
            SealProbe x = new SealProbe();
            int n = x.atom(1);
            x.know(n);
            int t = n;
            for (int s = 2; s <= size; s++) {
                t = x.term(9, t, 0);
            }
            int a = x.agent(true);
            x.role();
            int v = x.variable(0, 2, 3);
            x.event(0, false, v);
            x.event(0, true, x.term(9, v, 0));
            x.event(0, true, x.of(6, v, a));
            x.session(0, 0, 0, 0);
            x.begin();
            due.is("receive", x.receive(0, t), 1);
            due.is("send", x.send(0), 2);
            due.is("send", x.send(0), 3);
            int had = x.told(0);
            due.is("size of the hash", x.row(1, 1), size + 1);
            due.is("size of the lock", x.row(2, 1), size + 2);
            due.is("the lock", x.row(2, 4), size + 2 <= 24 ? had : Due.NO);
            int then = x.told(0);
            due.is("terms", then, size + 2 <= 24 ? had + 1 : had);
            due.is("the hash", x.row(1, 4), size + 1 <= 24 ? then : Due.NO);
            due.is("terms", x.told(0), size + 1 <= 24 ? then + 1 : then);
        }
    }

    /** PARAMETERS, FRESH ones and those received ahead stand for something: it must be that. */
    private static void standingOnesReceived() {
        SealProbe x = new SealProbe();
        int a = x.agent(true);
        int b = x.agent(true);
        int n = x.atom(1);
        x.know(n);
        x.role();
        int p = x.variable(0, 0, 0);
        int f = x.variable(0, 1, 1);
        int v = x.variable(0, 2, 3);
        x.event(0, false, p);
        x.event(0, true, f);
        x.event(0, false, f);
        x.event(0, false, x.term(4, v, p));
        x.event(0, false, v);
        x.session(0, b, 0, 0);
        int own = x.told(0) - 1;
        x.begin();
        due.is("another agent", x.receive(0, a), Due.NO);
        due.is("its agent", x.receive(0, b), 1);
        x.send(0);
        due.is("another nonce", x.receive(0, n), Due.NO);
        due.is("its own", x.receive(0, own), 3);
        due.is("of another agent", x.receive(0, x.term(4, n, a)), Due.NO);
        due.is("v stands for nothing still", x.stands(0, 2), NONE);
        due.is("of its agent", x.receive(0, x.term(4, n, b)), 4);
        due.is("not what v stands for", x.receive(0, own), Due.NO);
        due.is("what v stands for", x.receive(0, n), 5);
        due.is("p", x.stands(0, 0), b);
        due.is("f", x.stands(0, 1), own);
        due.is("v", x.stands(0, 2), n);
    }

    /** A VARIABLE of SORT 0 that is for an AGENT of a LOCK, a PRIVATE, a SIGN. */
    private static void agentsReceived() {
        SealProbe x = new SealProbe();
        int a = x.agent(true);
        int b = x.agent(false);
        int n = x.atom(1);
        x.know(n);
        x.role();
        int who = x.variable(0, 2, 0);
        int by = x.variable(0, 2, 0);
        x.event(0, false, x.of(6, n, who));
        x.event(0, false, x.of(8, n, by));
        x.event(0, false, x.of(7, 0, by));
        x.event(0, false, x.of(8, n, who));
        x.session(0, 0, 0, 0);
        x.begin();
        due.is("a sign is no lock", x.receive(0, x.of(8, n, b)), Due.NO);
        due.is("a lock", x.receive(0, x.of(6, n, a)), 1);
        due.is("who", x.stands(0, 0), a);
        due.is("a lock is no sign", x.receive(0, x.of(6, n, b)), Due.NO);
        due.is("a sign", x.receive(0, x.of(8, n, b)), 2);
        due.is("by", x.stands(0, 1), b);
        due.is("another's private", x.receive(0, x.of(7, 0, a)), Due.NO);
        due.is("its private", x.receive(0, x.of(7, 0, b)), 3);
        due.is("can't be made", x.receive(0, x.of(8, n, a)), Due.NO);
        due.is("not who", x.receive(0, x.of(8, n, b)), Due.NO);
    }

    private static void sessionsApart() {
        SealProbe x = new SealProbe();
        int n = x.atom(1);
        int m = x.atom(1);
        x.know(n);
        x.know(m);
        x.role();
        int v = x.variable(0, 2, 1);
        x.event(0, false, v);
        x.event(0, false, v);
        x.session(0, 0, 0, 0);
        x.session(0, 0, 0, 0);
        x.begin();
        due.is("one", x.receive(0, n), 1);
        due.is("the other's stands for nothing", x.stands(1, 0), NONE);
        due.is("the other", x.receive(1, m), 1);
        due.is("one", x.receive(0, m), Due.NO);
        due.is("one", x.receive(0, n), 2);
        due.is("the other", x.receive(1, n), Due.NO);
        due.is("the other", x.receive(1, m), 2);
    }

    /** What fits at first and then does not leaves no VARIABLE standing. */
    private static void refusedHalfway() {
        SealProbe x = new SealProbe();
        int n = x.atom(1);
        int m = x.atom(1);
        int k = x.atom(2);
        x.know(n);
        x.know(m);
        x.know(k);
        x.role();
        int v = x.variable(0, 2, 1);
        int w = x.variable(0, 2, 2);
        x.event(0, false, x.term(4, v, x.term(4, w, v)));
        x.session(0, 0, 0, 0);
        x.begin();
        due.is("v twice, not the same", x.receive(0, x.term(4, n, x.term(4, k, m))), Due.NO);
        due.is("v", x.stands(0, 0), NONE);
        due.is("w", x.stands(0, 1), NONE);
        due.is("w is no nonce", x.receive(0, x.term(4, n, x.term(4, n, n))), Due.NO);
        due.is("v", x.stands(0, 0), NONE);
        due.is("another", x.receive(0, x.term(4, m, x.term(4, k, m))), 1);
        due.is("v", x.stands(0, 0), m);
        due.is("w", x.stands(0, 1), k);
    }

    private static void begunAnew() {
        SealProbe x = new SealProbe();
        int n = x.atom(1);
        x.know(n);
        x.role();
        int v = x.variable(0, 2, 3);
        x.event(0, false, v);
        x.event(0, true, x.term(9, v, 0));
        x.session(0, 0, 0, 0);
        for (int round = 0; round < 3; round++) {
            due.is("begin", x.begin(), 1);
            due.is("events", x.told(5), 0);
            due.is("done", x.done(0), 0);
            due.is("v", x.stands(0, 0), NONE);
            due.is("the row", x.row(1, 0), NONE);
            due.is("nothing to undo", x.undo(), Due.NO);
            due.is("receive", x.receive(0, n), 1);
            due.is("send", x.send(0), 2);
        }
        due.is("end", x.end(), 2);
        due.is("no run", x.told(5), NONE);
        due.is("end again", x.end(), Due.STATE);
        due.is("begin", x.begin(), 1);
        due.is("end without an event", x.end(), 0);
    }

    private static void undoneToTheFirst() {
        SealProbe x = new SealProbe();
        int n = x.atom(1);
        int m = x.atom(1);
        x.know(n);
        x.know(m);
        x.role();
        int v = x.variable(0, 2, 1);
        x.event(0, false, v);
        x.event(0, false, x.term(4, v, v));
        x.event(0, true, x.term(5, v, v));
        x.session(0, 0, 0, 0);
        x.begin();
        x.receive(0, n);
        x.receive(0, x.term(4, n, n));
        due.is("send", x.send(0), 3);
        due.is("undo a send", x.undo(), 2);
        due.is("the row", x.row(2, 0), NONE);
        due.is("undo what bound nothing", x.undo(), 1);
        due.is("v stands still", x.stands(0, 0), n);
        due.is("undo what bound v", x.undo(), 0);
        due.is("v stands for nothing", x.stands(0, 0), NONE);
        due.is("no more", x.undo(), Due.NO);
        due.is("another way", x.receive(0, m), 1);
        due.is("v", x.stands(0, 0), m);
        due.is("end", x.end(), 1);
    }
}
