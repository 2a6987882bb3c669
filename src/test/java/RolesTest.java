/** Promises 7 to 11. */
public final class RolesTest {
    private static final Due due = new Due();

    public static void main(String[] args) {
        roles();
        variables();
        events();
        known();
        knownForgets();
        sessions();
        sessionsRefused();
        sessionsFull();
        due.close();
    }

    private static void roles() {
        SealProbe x = new SealProbe();
        for (int r = 0; r < 4; r++) {
            due.is("role", x.role(), r);
        }
        due.is("a fifth role", x.role(), Due.FULL);
        due.is("told(1)", x.told(1), 4);
    }

    private static void variables() {
        SealProbe x = new SealProbe();
        x.role();
        x.role();
        int made = 0;
        for (int as = -1; as <= 3; as++) {
            for (int sort = -1; sort <= 4; sort++) {
                boolean may = as == 0 && sort == 0 || as == 1 && (sort == 1 || sort == 2)
                        || as == 2 && sort >= 0 && sort <= 3;
                if (!may) {
                    due.is("variable(0, " + as + ", " + sort + ")", x.variable(0, as, sort), Due.OUTSIDE);
                } else if (made < 6) {
                    due.is("variable(0, " + as + ", " + sort + ")", x.variable(0, as, sort), made);
                    due.is("its sort", x.about(made, 7), sort);
                    due.is("its number", x.about(made, 8), made);
                    due.is("told as", x.ofRole(0, 30 + made), as);
                    made++;
                }
            }
        }
        due.is("a seventh", x.variable(0, 2, 3), Due.FULL);
        due.is("outside ahead of full", x.variable(0, 2, 4), Due.OUTSIDE);
        due.is("no role", x.variable(2, 0, 0), Due.UNKNOWN);
        due.is("no role", x.variable(-1, 9, 9), Due.UNKNOWN);
        due.is("of another role", x.variable(1, 0, 0), 6);
        due.is("its role", x.about(6, 6), 1);
        due.is("its number", x.about(6, 8), 0);
        due.is("variables", x.ofRole(0, 0), 6);
        x.session(0, x.agent(true), 0, 0);
        due.is("closed ahead of full", x.variable(0, 2, 3), Due.STATE);
        due.is("outside ahead of closed", x.variable(0, 0, 1), Due.OUTSIDE);
        due.is("told(0)", x.told(0), 10);
    }

    private static void events() {
        SealProbe x = new SealProbe();
        x.role();
        x.role();
        int parameter = x.variable(0, 0, 0);
        int fresh = x.variable(0, 1, 2);
        int got = x.variable(0, 2, 3);
        int gotToo = x.variable(0, 2, 0);
        int others = x.variable(1, 0, 0);
        int mixed = x.term(4, got, others);
        int both = x.term(5, got, x.of(7, 0, gotToo));
        due.is("sends what was not received", x.event(0, true, got), Due.NO);
        due.is("a variable of another role", x.event(0, false, mixed), Due.NO);
        due.is("a variable of another role", x.event(0, true, others), Due.NO);
        due.is("sends", x.event(0, true, x.term(5, parameter, fresh)), 1);
        due.is("receives", x.event(0, false, x.term(4, got, got)), 2);
        due.is("sends one that was not received", x.event(0, true, both), Due.NO);
        due.is("sends what was received", x.event(0, true, x.term(9, got, 0)), 3);
        due.is("receives both", x.event(0, false, both), 4);
        due.is("sends both", x.event(0, true, both), 5);
        due.is("no role", x.event(2, true, fresh), Due.UNKNOWN);
        due.is("no term", x.event(0, true, 99), Due.UNKNOWN);
        due.is("no term", x.event(0, false, -1), Due.UNKNOWN);
        due.is("a ground one", x.event(0, false, x.agent(true)), 6);
        due.is("a seventh", x.event(0, true, fresh), Due.FULL);
        due.is("full ahead of no", x.event(0, true, others), Due.FULL);
        due.is("events", x.ofRole(0, 1), 6);
        due.is("unknown ahead of full", x.event(0, true, 99), Due.UNKNOWN);
        x.session(0, x.agent(true), 0, 0);
        due.is("closed ahead of full", x.event(0, true, others), Due.STATE);
        due.is("a role without sessions is not", x.event(1, true, others), 1);
        due.is("a parameter may be received", x.event(1, false, others), 2);
    }

    private static void known() {
        SealProbe x = new SealProbe();
        x.role();
        int v = x.variable(0, 2, 3);
        int[] atoms = new int[21];
        for (int i = 0; i < 21; i++) {
            atoms[i] = x.atom(1);
        }
        due.is("no term", x.know(99), Due.UNKNOWN);
        due.is("no term", x.know(-1), Due.UNKNOWN);
        due.is("not ground", x.know(v), Due.NO);
        due.is("not ground", x.know(x.term(4, atoms[0], v)), Due.NO);
        for (int i = 0; i < 20; i++) {
            due.is("know", x.know(atoms[i]), i + 1);
            if (i < 19) {
                due.is("known", x.know(atoms[i]), Due.NO);
            }
        }
        due.is("full", x.know(atoms[20]), Due.FULL);
        due.is("full ahead of known", x.know(atoms[0]), Due.FULL);
        due.is("full ahead of not ground", x.know(v), Due.FULL);
        due.is("told(4)", x.told(4), 20);
        x.begin();
        due.is("a run ahead of full", x.know(atoms[20]), Due.STATE);
        due.is("unknown ahead of a run", x.know(99), Due.UNKNOWN);
        x.end();
    }

    private static void knownForgets() {
        SealProbe x = new SealProbe();
        x.atom(1);
        x.know(0);
        x.search();
        due.is("found(0)", x.found(0), 1);
        due.is("refused", x.know(0), Due.NO);
        due.is("a refusal forgets nothing", x.found(0), 1);
        x.atom(1);
        due.is("a new term forgets nothing", x.found(0), 1);
        x.know(1);
        due.is("know forgets", x.found(0), 0);
    }

    private static void sessions() {
        SealProbe x = new SealProbe();
        x.agent(true);
        x.agent(false);
        x.agent(true);
        x.role();
        x.variable(0, 1, 2);
        x.variable(0, 0, 0);
        x.variable(0, 2, 3);
        x.variable(0, 0, 0);
        x.variable(0, 1, 1);
        x.variable(0, 0, 0);
        x.role();
        x.search();
        due.is("not closed", x.ofRole(0, 2), 0);
        due.is("session", x.session(0, 2, 1, 0), 0);
        due.is("it forgets what was found", x.found(0), 0);
        due.is("closed", x.ofRole(0, 2), 1);
        due.is("the other is not", x.ofRole(1, 2), 0);
        due.is("terms", x.told(0), 11);
        due.is("first fresh one", x.about(9, 0), 2);
        due.is("second fresh one", x.about(10, 0), 1);
        due.is("nothing matters", x.session(1, -1, 99, 7), 1);
        x.begin();
        int[] stand = {9, 2, Due.NONE, 1, 10, 0};
        for (int v = 0; v < 6; v++) {
            due.is("stands(0, " + v + ")", x.stands(0, v), stand[v]);
        }
        x.end();
        due.is("the same agent thrice", x.session(0, 0, 0, 0), 2);
        x.begin();
        due.is("own fresh ones", x.stands(2, 0), 11);
        due.is("told(2)", x.told(2), 3);
    }

    private static void sessionsRefused() {
        SealProbe x = new SealProbe();
        x.agent(true);
        x.atom(1);
        x.role();
        x.variable(0, 0, 0);
        x.variable(0, 0, 0);
        x.role();
        for (int v = 0; v < 4; v++) {
            x.variable(1, 0, 0);
        }
        x.role();
        for (int v = 0; v < 3; v++) {
            x.variable(2, 0, 0);
        }
        due.is("no role", x.session(3, 0, 0, 0), Due.UNKNOWN);
        due.is("no c", x.session(2, 0, 0, 99), Due.UNKNOWN);
        due.is("the third one is no agent", x.session(2, 0, 0, 1), Due.NO);
        due.is("no a", x.session(0, 99, 0, 0), Due.UNKNOWN);
        due.is("no b", x.session(0, 0, -1, 0), Due.UNKNOWN);
        due.is("no agent", x.session(0, 1, 0, 0), Due.NO);
        due.is("no agent", x.session(0, 0, 1, 0), Due.NO);
        due.is("a variable is no agent", x.session(0, 0, 2, 0), Due.NO);
        due.is("unknown ahead of no agent", x.session(0, 1, 99, 0), Due.UNKNOWN);
        due.is("four parameters", x.session(1, 0, 0, 0), Due.NO);
        due.is("four parameters, no c", x.session(1, 0, 0, 99), Due.UNKNOWN);
        x.search();
        x.session(0, 1, 0, 0);
        due.is("a refusal forgets nothing", x.found(0), 1);
        x.begin();
        due.is("a run", x.session(0, 0, 0, 99), Due.STATE);
        due.is("a run ahead of no agent", x.session(0, 1, 0, 0), Due.STATE);
        due.is("unknown ahead of a run", x.session(0, 99, 0, 0), Due.UNKNOWN);
        x.end();
        for (int s = 0; s < 4; s++) {
            due.is("session", x.session(0, 0, 0, 99), s);
        }
        due.is("a fifth", x.session(0, 0, 0, 0), Due.FULL);
        due.is("full ahead of no", x.session(0, 1, 0, 0), Due.FULL);
    }

    private static void sessionsFull() {
        SealProbe x = new SealProbe();
        x.role();
        x.variable(0, 1, 1);
        x.variable(0, 1, 2);
        x.role();
        x.variable(1, 1, 1);
        while (x.told(0) < 199) {
            x.agent(true);
        }
        due.is("room for one only", x.session(0, 0, 0, 0), Due.FULL);
        due.is("none was made", x.told(0), 199);
        due.is("not closed", x.ofRole(0, 2), 0);
        due.is("room for one", x.session(1, 0, 0, 0), 0);
        due.is("told(0)", x.told(0), 200);
        due.is("no room", x.session(1, 0, 0, 0), Due.FULL);
        x.role();
        due.is("no room needed", x.session(2, 0, 0, 0), 1);
    }
}
