/** The limits and the ranges that the document names: asked just inside, at, and just outside of each. */
public final class LimitsTest {
    private static final Due due = new Due();

    /** Makes the i-th TERM of its kind: another for each i. */
    private interface Maker {
        int make(SealProbe x, int i);
    }

    public static void main(String[] args) {
        twoHundredTerms();
        twoHundredVariables();
        twoHundredBySessions();
        twoHundredByRow();
        theSameOfTwoHundred();
        alikeButNotTheSame();
        sizesOfPairsAndSeals();
        sizesOfOthers();
        sizesWithVariables();
        fourRoles();
        sixVariables();
        sixEvents();
        sixEventsByHand();
        twentyKnown();
        fourSessions();
        freshOnes();
        threeParameters();
        sixClaims();
        fourJoined();
        numbersOfEvents();
        whatsOfTerms();
        whatsOfRoles();
        whatsOfOthers();
        anewAfterClear();
        fiveHundredCalls();
        due.close();
    }

    private static SealProbe tenAgents() {
        SealProbe x = new SealProbe();
        for (int a = 0; a < 10; a++) {
            x.agent(a % 2 == 0);
        }
        return x;
    }

    private static void fill(SealProbe x, int terms) {
        for (int n = x.told(0); n < terms; n++) {
            x.atom(1);
        }
    }

    private static void upToTwoHundred(String name, SealProbe x, Maker maker) {
        fill(x, 198);
        due.is(name + ", 199 then", maker.make(x, 0), 198);
        due.is("terms", x.told(0), 199);
        due.is(name + ", 200 then", maker.make(x, 1), 199);
        due.is("terms", x.told(0), 200);
        due.is(name + ", 201 would be", maker.make(x, 2), Due.FULL);
        due.is("terms", x.told(0), 200);
        due.is("the last one", x.about(199, 3) >= 1);
        due.is("none behind it", x.about(200, 3), Due.UNKNOWN);
    }

    private static void twoHundredTerms() {
        upToTwoHundred("agent", tenAgents(), (x, i) -> x.agent(true));
        upToTwoHundred("agent", tenAgents(), (x, i) -> x.agent(false));
        upToTwoHundred("nonce", tenAgents(), (x, i) -> x.atom(1));
        upToTwoHundred("key", tenAgents(), (x, i) -> x.atom(2));
        upToTwoHundred("pair", tenAgents(), (x, i) -> x.term(4, i, 0));
        upToTwoHundred("seal", tenAgents(), (x, i) -> x.term(5, 0, i));
        upToTwoHundred("hash", tenAgents(), (x, i) -> x.term(9, i, 0));
        upToTwoHundred("lock", tenAgents(), (x, i) -> x.of(6, 0, i));
        upToTwoHundred("private", tenAgents(), (x, i) -> x.of(7, 0, i));
        upToTwoHundred("sign", tenAgents(), (x, i) -> x.of(8, i, 0));
    }

    private static void twoHundredVariables() {
        int[][] ways = {{0, 0}, {1, 1}, {1, 2}, {2, 0}, {2, 1}, {2, 2}, {2, 3}};
        for (int[] way : ways) {
            SealProbe x = tenAgents();
            x.role();
            upToTwoHundred("variable", x, (y, i) -> y.variable(0, way[0], way[1]));
            due.is("two of them", x.ofRole(0, 0), 2);
        }
    }

    private static void twoHundredBySessions() {
        SealProbe x = tenAgents();
        x.role();
        x.variable(0, 1, 2);
        fill(x, 198);
        due.is("a session", x.session(0, 0, 0, 0), 0);
        due.is("199 terms", x.told(0), 199);
        due.is("a session", x.session(0, 0, 0, 0), 1);
        due.is("200 terms", x.told(0), 200);
        due.is("201 would be", x.session(0, 0, 0, 0), Due.FULL);
        due.is("sessions", x.told(2), 2);
        due.is("the last one", x.about(199, 0), 2);
    }

    /** THE ROW has three TERMS that are not there, each of the one ahead of it. */
    private static void twoHundredByRow() {
        SealProbe x = new SealProbe();
        x.role();
        int t = x.variable(0, 1, 1);
        for (int k = 0; k < 3; k++) {
            t = x.term(9, t, 0);
            x.event(0, true, t);
        }
        x.session(0, 0, 0, 0);
        fill(x, 198);
        x.begin();
        for (int k = 1; k <= 3; k++) {
            due.is("send", x.send(0), k);
        }
        due.is("two are not there: 200 then", x.row(1, 4), 199);
        due.is("201 would be", x.row(2, 4), Due.FULL);
        due.is("there already", x.row(0, 4), 198);
        due.is("there already", x.row(1, 4), 199);
        due.is("terms", x.told(0), 200);

        SealProbe y = new SealProbe();
        y.role();
        int u = y.variable(0, 1, 1);
        y.event(0, true, y.term(4, y.term(9, u, 0), y.term(9, y.term(9, u, 0), 0)));
        y.session(0, 0, 0, 0);
        fill(y, 197);
        y.begin();
        y.send(0);
        due.is("room for all three", y.row(0, 4), 199);
        due.is("terms", y.told(0), 200);
    }

    private static void theSameOfTwoHundred() {
        SealProbe x = tenAgents();
        int v = x.role() + 10;
        x.variable(0, 0, 0);
        int first = v + 1;
        for (int round = 0; round < 2; round++) {
            due.is("pair", x.term(4, 0, 1), first);
            due.is("pair, turned round", x.term(4, 1, 0), first + 1);
            due.is("seal", x.term(5, 0, 1), first + 2);
            due.is("seal, turned round", x.term(5, 1, 0), first + 3);
            due.is("hash", x.term(9, 0, 1), first + 4);
            due.is("hash of another", x.term(9, 1, 1), first + 5);
            due.is("lock", x.of(6, 0, 1), first + 6);
            due.is("lock for another", x.of(6, 0, 2), first + 7);
            due.is("private", x.of(7, 0, 1), first + 8);
            due.is("private of another", x.of(7, 0, 2), first + 9);
            due.is("sign", x.of(8, 0, 1), first + 10);
            due.is("sign by another", x.of(8, 0, 2), first + 11);
            due.is("sign by a variable", x.of(8, 0, v), first + 12);
            due.is("lock of a lock", x.of(6, first + 6, 1), first + 13);
            due.is("hash, its y does not matter", x.term(9, 0, -1), first + 4);
            due.is("private, its x does not matter", x.of(7, 999, 1), first + 8);
            fill(x, 200);
        }
        due.is("another", x.term(4, 1, 1), Due.FULL);
        due.is("terms", x.told(0), 200);
    }

    /** 160 TERMS of the same two kinds of things: each is new, and each is found again. */
    private static void alikeButNotTheSame() {
        for (int way = 0; way < 2; way++) {
            SealProbe x = new SealProbe();
            for (int a = 0; a < 40; a++) {
                x.agent(true);
            }
            for (int round = 0; round < 2; round++) {
                for (int a = 0; a < 40; a++) {
                    int y = way == 0 ? 7 : a;
                    int other = way == 0 ? a : 7;
                    due.is("pair", x.term(4, other, y), 40 + 4 * a);
                    due.is("seal", x.term(5, other, y), 41 + 4 * a);
                    due.is("lock", x.of(6, other, y), 42 + 4 * a);
                    due.is("sign", x.of(8, other, y), 43 + 4 * a);
                }
            }
            due.is("terms", x.told(0), 200);
            due.is("what the last is of", x.about(199, 1), way == 0 ? 39 : 7);
            due.is("what the last is of", x.about(199, 2), way == 0 ? 7 : 39);
        }
    }

    /** TERMS of SIZE 1 to 24 at these places. */
    private static int[] bySize(SealProbe x) {
        int[] sized = new int[25];
        sized[1] = x.atom(1);
        for (int size = 2; size <= 24; size++) {
            sized[size] = x.term(9, sized[size - 1], 0);
            due.is("size", x.about(sized[size], 3), size);
        }
        return sized;
    }

    private static void sizesOfPairsAndSeals() {
        for (int kind = 4; kind <= 5; kind++) {
            SealProbe x = new SealProbe();
            int[] sized = bySize(x);
            for (int left = 1; left <= 22; left++) {
                int made = x.term(kind, sized[left], sized[23 - left]);
                due.is("size 24", x.about(made, 3), 24);
                due.is("size 25", x.term(kind, sized[left + 1], sized[23 - left]), Due.OUTSIDE);
                due.is("size 25", x.term(kind, sized[left], sized[24 - left]), Due.OUTSIDE);
            }
            due.is("size 23", x.about(x.term(kind, sized[11], sized[11]), 3), 23);
            due.is("size 49", x.term(kind, sized[24], sized[24]), Due.OUTSIDE);
            due.is("terms", x.told(0), 24 + 22 + 1);
        }
    }

    private static void sizesOfOthers() {
        SealProbe x = new SealProbe();
        int[] sized = bySize(x);
        int a = x.agent(true);
        due.is("hash of size 25", x.term(9, sized[24], 0), Due.OUTSIDE);
        for (int kind = 6; kind <= 8; kind += 2) {
            due.is("size 23", x.about(x.of(kind, sized[21], a), 3), 23);
            due.is("size 24", x.about(x.of(kind, sized[22], a), 3), 24);
            due.is("size 25", x.of(kind, sized[23], a), Due.OUTSIDE);
            due.is("size 26", x.of(kind, sized[24], a), Due.OUTSIDE);
        }
        due.is("private, whatever x is", x.about(x.of(7, sized[24], a), 3), 2);
        due.is("terms", x.told(0), 24 + 1 + 4 + 1);
    }

    /** A VARIABLE counts 1, also where it is for an AGENT. */
    private static void sizesWithVariables() {
        SealProbe x = new SealProbe();
        int[] sized = bySize(x);
        x.role();
        int any = x.variable(0, 2, 3);
        int agent = x.variable(0, 2, 0);
        due.is("size 1", x.about(any, 3), 1);
        due.is("pair of size 24", x.about(x.term(4, sized[22], any), 3), 24);
        due.is("pair of size 25", x.term(4, sized[23], any), Due.OUTSIDE);
        due.is("lock of size 24", x.about(x.of(6, sized[22], agent), 3), 24);
        due.is("lock of size 25", x.of(6, sized[23], agent), Due.OUTSIDE);
        due.is("private of size 2", x.about(x.of(7, 0, agent), 3), 2);
        due.is("sign of size 3", x.about(x.of(8, any, agent), 3), 3);
    }

    private static void fourRoles() {
        SealProbe x = new SealProbe();
        for (int role = 0; role < 4; role++) {
            due.is("not yet", x.ofRole(role, 0), Due.UNKNOWN);
            due.is("role", x.role(), role);
            due.is("its variables", x.ofRole(role, 0), 0);
            due.is("its events", x.ofRole(role, 1), 0);
            due.is("closed", x.ofRole(role, 2), 0);
            due.is("roles", x.told(1), role + 1);
        }
        due.is("a fifth", x.role(), Due.FULL);
        due.is("roles", x.told(1), 4);
        due.is("none such", x.ofRole(4, 0), Due.UNKNOWN);
    }

    private static void sixVariables() {
        SealProbe x = new SealProbe();
        for (int role = 0; role < 4; role++) {
            x.role();
            for (int v = 0; v < 6; v++) {
                due.is("none such", x.secret(role, v), Due.UNKNOWN);
                due.is("variable", x.variable(role, 2, v % 4), role * 6 + v);
                due.is("its role", x.about(role * 6 + v, 6), role);
                due.is("its sort", x.about(role * 6 + v, 7), v % 4);
                due.is("its number", x.about(role * 6 + v, 8), v);
                due.is("variables", x.ofRole(role, 0), v + 1);
            }
            due.is("a seventh", x.variable(role, 2, 0), Due.FULL);
            due.is("variables", x.ofRole(role, 0), 6);
        }
        due.is("terms", x.told(0), 24);
    }

    private static void sixEvents() {
        SealProbe x = new SealProbe();
        int n = x.atom(1);
        for (int role = 0; role < 4; role++) {
            x.role();
            for (int k = 0; k < 6; k++) {
                due.is("none such", x.ofRole(role, 10 + k), Due.NONE);
                due.is("event", x.event(role, k % 2 == 0, n), k + 1);
                due.is("its term", x.ofRole(role, 10 + k), n);
                due.is("whether it sends", x.ofRole(role, 20 + k), k % 2 == 0 ? 1 : 0);
            }
            due.is("a seventh", x.event(role, true, n), Due.FULL);
            due.is("a seventh", x.event(role, false, n), Due.FULL);
            due.is("events", x.ofRole(role, 1), 6);
        }
    }

    /** Four SESSIONS of six EVENTS are done, all 24, and taken back. */
    private static void sixEventsByHand() {
        SealProbe x = new SealProbe();
        int n = x.atom(1);
        x.role();
        for (int k = 0; k < 6; k++) {
            x.event(0, k % 2 == 0, n);
        }
        for (int s = 0; s < 4; s++) {
            x.session(0, 0, 0, 0);
        }
        x.begin();
        for (int k = 0; k < 6; k++) {
            for (int s = 3; s >= 0; s--) {
                due.is("done", x.done(s), k);
                due.is("event", k % 2 == 0 ? x.send(s) : x.receive(s, n), k % 2 == 0 ? 1 : k + 1);
            }
        }
        due.is("events", x.told(5), 24);
        for (int s = 0; s < 4; s++) {
            due.is("all done", x.done(s), 6);
            due.is("none left", x.send(s), Due.NO);
            due.is("none left", x.receive(s, n), Due.NO);
        }
        for (int k = 23; k >= 0; k--) {
            due.is("undo", x.undo(), k);
            due.is("done", x.done(3 - k % 4), k / 4);
        }
        due.is("none left", x.undo(), Due.NO);
        due.is("end", x.end(), 0);
    }

    private static void twentyKnown() {
        SealProbe x = new SealProbe();
        for (int t = 0; t < 21; t++) {
            x.atom(1 + t % 2);
        }
        for (int t = 0; t < 20; t++) {
            due.is("know", x.know(20 - t), t + 1);
            due.is("known", x.told(4), t + 1);
        }
        due.is("a twenty-first", x.know(0), Due.FULL);
        due.is("known", x.told(4), 20);
        x.begin();
        for (int i = 0; i < 20; i++) {
            due.is("in order", x.row(i, 4), 20 - i);
        }
        due.is("no more", x.row(20, 4), Due.NONE);
        due.is("it is not known", x.makes(0), 0);
    }

    private static void fourSessions() {
        SealProbe x = new SealProbe();
        x.agent(true);
        x.role();
        x.role();
        x.variable(1, 0, 0);
        for (int s = 0; s < 4; s++) {
            due.is("not yet", x.send(s), Due.UNKNOWN);
            due.is("session", x.session(s % 2, 0, 0, 0), s);
            due.is("sessions", x.told(2), s + 1);
        }
        due.is("a fifth", x.session(0, 0, 0, 0), Due.FULL);
        due.is("a fifth", x.session(1, 0, 0, 0), Due.FULL);
        due.is("sessions", x.told(2), 4);
        due.is("none such", x.done(4), Due.UNKNOWN);
        due.is("begin", x.begin(), 4);
    }

    /** Room for all FRESH ones, just so, and for one fewer. */
    private static void freshOnes() {
        for (int fresh = 0; fresh <= 6; fresh++) {
            for (int missing = 0; missing <= 1; missing++) {
                SealProbe x = new SealProbe();
                x.role();
                for (int v = 0; v < fresh; v++) {
                    x.variable(0, 1, 1 + v % 2);
                }
                fill(x, Math.min(200, 200 - fresh + missing));
                int had = x.told(0);
                boolean fits = had + fresh <= 200;
                due.is(fresh + " fresh, " + had + " terms", x.session(0, 0, 0, 0), fits ? 0 : Due.FULL);
                due.is("terms", x.told(0), fits ? 200 : had);
                due.is("closed", x.ofRole(0, 2), fits ? 1 : 0);
                due.is("sessions", x.told(2), fits ? 1 : 0);
                x.begin();
                for (int v = 0; v < fresh; v++) {
                    due.is("stands", x.stands(0, v), fits ? had + v : Due.UNKNOWN);
                    due.is("its kind", x.about(had + v, 0), fits ? 1 + v % 2 : Due.UNKNOWN);
                }
            }
        }
    }

    private static void threeParameters() {
        for (int parameters = 0; parameters <= 6; parameters++) {
            SealProbe x = tenAgents();
            x.role();
            for (int v = 0; v < parameters; v++) {
                x.variable(0, 0, 0);
            }
            int b = parameters < 2 ? -1 : 5;
            int c = parameters < 3 ? 99 : 7;
            due.is(parameters + " parameters", x.session(0, parameters < 1 ? 99 : 3, b, c), parameters <= 3 ? 0 : Due.NO);
            x.begin();
            for (int v = 0; v < parameters && parameters <= 3; v++) {
                due.is("stands", x.stands(0, v), 3 + 2 * v);
            }
            due.is("none such", x.stands(0, parameters), Due.UNKNOWN);
        }
    }

    private static void sixClaims() {
        SealProbe x = new SealProbe();
        x.role();
        x.variable(0, 2, 3);
        for (int c = 0; c < 6; c++) {
            due.is("not yet", x.broken(c), Due.UNKNOWN);
            due.is("claim", c % 2 == 0 ? x.secret(0, 0) : x.agree(0, 0, c), c);
            due.is("claims", x.told(3), c + 1);
        }
        due.is("a seventh", x.secret(0, 0), Due.FULL);
        due.is("a seventh", x.agree(0, 0, 0), Due.FULL);
        due.is("claims", x.told(3), 6);
        x.begin();
        due.is("the last one", x.broken(5), 0);
        due.is("none such", x.broken(6), Due.UNKNOWN);
    }

    private static void fourJoined() {
        SealProbe x = new SealProbe();
        x.role();
        x.role();
        for (int v = 0; v < 6; v++) {
            x.variable(0, 2, 3);
            x.variable(1, 2, 3);
        }
        x.agree(0, 1, 0);
        x.agree(1, 0, 0);
        for (int j = 0; j < 4; j++) {
            due.is("join", x.join(0, j, 5 - j), j + 1);
        }
        due.is("a fifth", x.join(0, 4, 1), Due.FULL);
        due.is("one that is joined", x.join(0, 0, 5), Due.FULL);
        for (int j = 0; j < 4; j++) {
            due.is("of another claim", x.join(1, 5, 5), j + 1);
        }
        due.is("a fifth", x.join(1, 5, 5), Due.FULL);
    }

    private static void numbersOfEvents() {
        SealProbe x = new SealProbe();
        x.role();
        for (int n = 0; n <= 5; n++) {
            due.is("n = " + n, x.agree(0, 0, n), n);
        }
        SealProbe y = new SealProbe();
        y.role();
        due.is("n = 6", y.agree(0, 0, 6), 0);
        due.is("n = 7", y.agree(0, 0, 7), Due.OUTSIDE);
        due.is("n = -1", y.agree(0, 0, -1), Due.OUTSIDE);
        due.is("claims", y.told(3), 1);
    }

    private static void whatsOfTerms() {
        SealProbe x = tenAgents();
        for (int sort = -1; sort <= 4; sort++) {
            due.is("atom(" + sort + ")", x.atom(sort), sort == 1 ? 10 : sort == 2 ? 11 : Due.OUTSIDE);
        }
        for (int what = -1; what <= 9; what++) {
            boolean outside = what < 0 || what > 8;
            due.is("about(0, " + what + ")", (x.about(0, what) == Due.OUTSIDE) == outside);
            due.is("about(11, " + what + ")", (x.about(11, what) == Due.OUTSIDE) == outside);
            due.is("about(12, " + what + ")", x.about(12, what), Due.UNKNOWN);
            due.is("about(-1, " + what + ")", x.about(-1, what), Due.UNKNOWN);
        }
    }

    private static void whatsOfRoles() {
        SealProbe x = new SealProbe();
        int n = x.atom(1);
        x.role();
        x.role();
        for (int k = 0; k < 6; k++) {
            x.variable(0, k % 3 == 0 ? 0 : k % 3, k % 3 == 0 ? 0 : 1);
            x.event(0, k % 2 == 1, n);
        }
        for (int what = -1; what <= 41; what++) {
            int k = what % 10;
            boolean inside = what >= 0 && what <= 2 || what >= 10 && what <= 35 && k <= 5;
            int of = what == 0 || what == 1 ? 6 : what == 2 ? 0 : what < 20 ? n : what < 30 ? k % 2 : k % 3;
            due.is("ofRole(0, " + what + ")", x.ofRole(0, what), inside ? of : Due.OUTSIDE);
            due.is("ofRole(1, " + what + ")", x.ofRole(1, what), !inside ? Due.OUTSIDE : what <= 2 ? 0 : Due.NONE);
            due.is("ofRole(2, " + what + ")", x.ofRole(2, what), Due.UNKNOWN);
            due.is("ofRole(-1, " + what + ")", x.ofRole(-1, what), Due.UNKNOWN);
        }
    }

    private static void whatsOfOthers() {
        SealProbe x = new SealProbe();
        int n = x.atom(1);
        x.know(n);
        int[] found = {0, 0, Due.NONE, 0};
        int[] told = {1, 0, 0, 0, 1, Due.NONE};
        int[] row = {1, 1, 0, Due.NONE, n};
        for (int what = -1; what <= 6; what++) {
            due.is("found(" + what + ")", x.found(what), what >= 0 && what < 4 ? found[what] : Due.OUTSIDE);
            due.is("told(" + what + ")", x.told(what), what >= 0 && what < 6 ? told[what] : Due.OUTSIDE);
            due.is("row(0, " + what + ")", x.row(0, what), what >= 0 && what < 5 ? Due.STATE : Due.OUTSIDE);
        }
        x.begin();
        for (int what = -1; what <= 6; what++) {
            boolean inside = what >= 0 && what < 5;
            due.is("row(-1, " + what + ")", x.row(-1, what), inside ? Due.NONE : Due.OUTSIDE);
            due.is("row(0, " + what + ")", x.row(0, what), inside ? row[what] : Due.OUTSIDE);
            due.is("row(1, " + what + ")", x.row(1, what), inside ? Due.NONE : Due.OUTSIDE);
        }
        due.is("told(5)", x.told(5), 0);
    }

    /** Everything is made up to its limit, with a search and a RUN, twice. */
    private static void anewAfterClear() {
        SealProbe x = new SealProbe();
        for (int round = 0; round < 2; round++) {
            makeAll(x);
            due.is("claim 1 breaks", x.search(), 2);
            due.is("its states", x.found(0), 2);
            due.is("play", x.play(1), 21);
            due.is("clear", x.clear(), 36);
            due.is("no run", x.told(5), Due.NONE);
            due.is("no attack", x.found(2), Due.NONE);
            due.is("no states", x.found(0), 0);
            due.is("clear", x.clear(), 0);
        }
        for (int t = 0; t < 200; t++) {
            due.is("agent", x.agent(true), t);
        }
        due.is("full", x.agent(true), Due.FULL);
        due.is("clear", x.clear(), 200);
        due.is("agent", x.agent(true), 0);
    }

    private static void makeAll(SealProbe x) {
        for (int r = 0; r < 4; r++) {
            due.is("role", x.role(), r);
            due.is("variable", x.variable(r, 1, 1), 3 * r);
            due.is("variable", x.variable(r, 2, 3), 3 * r + 1);
            due.is("not received", x.event(r, true, 3 * r + 1), Due.NO);
            due.is("hash", x.term(9, 3 * r, 0), 3 * r + 2);
            due.is("event", x.event(r, true, 3 * r + 2), 1);
        }
        for (int s = 0; s < 4; s++) {
            due.is("open", x.ofRole(s, 2), 0);
            due.is("session", x.session(s, 0, 0, 0), s);
        }
        for (int c = 0; c < 6; c++) {
            due.is("claim", x.agree(0, 1, c), c);
        }
        for (int j = 0; j < 4; j++) {
            due.is("join", x.join(5, 0, 0), j + 1);
        }
        for (int t = 16; t < 36; t++) {
            due.is("atom", x.atom(2), t);
            due.is("know", x.know(t), t - 15);
        }
        due.is("a fifth role", x.role(), Due.FULL);
        due.is("a fifth session", x.session(0, 0, 0, 0), Due.FULL);
        due.is("a seventh claim", x.secret(0, 0), Due.FULL);
        due.is("a fifth joined", x.join(5, 0, 0), Due.FULL);
    }

    /** What an object answers does not wear out up to its 512th call. */
    private static void fiveHundredCalls() {
        SealProbe x = new SealProbe();
        x.agent(true);
        x.role();
        x.variable(0, 0, 0);
        x.variable(0, 1, 1);
        x.term(9, 2, 0);
        x.event(0, true, 3);
        x.event(0, true, 2);
        x.session(0, 0, 0, 0);
        x.session(0, 0, 0, 0);
        x.secret(0, 1);
        int calls = 10;
        for (; calls + 8 <= 512; calls += 8) {
            due.is("search", x.search(), 1);
            due.is("found(0)", x.found(0), 4);
            due.is("play", x.play(2), 2);
            due.is("broken", x.broken(0), 1);
            due.is("undo", x.undo(), 1);
            due.is("makes", x.makes(4), 0);
            due.is("row", x.row(0, 0), 9);
            due.is("end", x.end(), 1);
        }
        for (; calls < 512; calls++) {
            due.is("search", x.search(), 1);
        }
    }
}
