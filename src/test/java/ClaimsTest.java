/** Promises 12 to 14, and 23: when CLAIMS are BROKEN. */
public final class ClaimsTest {
    private static final Due due = new Due();

    public static void main(String[] args) {
        refusals();
        secrets();
        secretOfHonestOnesAlone();
        agreements();
        agreementWithItself();
        noTwoTheSame();
        othersMustGiveWay();
        joined();
        nothingIsNotTheSame();
        due.close();
    }

    private static void refusals() {
        SealProbe x = new SealProbe();
        x.role();
        x.role();
        x.variable(0, 1, 1);
        x.variable(1, 1, 1);
        x.variable(1, 2, 3);
        due.is("no role", x.secret(2, 0), Due.UNKNOWN);
        due.is("no variable", x.secret(0, 1), Due.UNKNOWN);
        due.is("no variable", x.secret(0, -1), Due.UNKNOWN);
        due.is("no variable", x.secret(1, 6), Due.UNKNOWN);
        due.is("secret", x.secret(1, 1), 0);
        due.is("no b", x.agree(2, 0, 0), Due.UNKNOWN);
        due.is("no a", x.agree(0, -1, 0), Due.UNKNOWN);
        due.is("unknown ahead of outside", x.agree(0, 2, 7), Due.UNKNOWN);
        due.is("n", x.agree(0, 1, 7), Due.OUTSIDE);
        due.is("n", x.agree(0, 1, -1), Due.OUTSIDE);
        due.is("agree", x.agree(0, 1, 6), 1);
        due.is("agree with itself", x.agree(0, 0, 0), 2);
        due.is("no claim", x.join(3, 0, 0), Due.UNKNOWN);
        due.is("no claim", x.join(-1, 0, 0), Due.UNKNOWN);
        due.is("a secret", x.join(0, 0, 0), Due.STATE);
        due.is("no variable of b", x.join(1, 1, 0), Due.UNKNOWN);
        due.is("no variable of a", x.join(1, 0, 2), Due.UNKNOWN);
        due.is("no variable", x.join(1, -1, 0), Due.UNKNOWN);
        for (int n = 1; n <= 4; n++) {
            due.is("join", x.join(1, 0, 1), n);
        }
        due.is("a fifth", x.join(1, 0, 0), Due.FULL);
        due.is("unknown ahead of full", x.join(1, 1, 0), Due.UNKNOWN);
        due.is("another claim has its own", x.join(2, 0, 0), 1);
        for (int c = 3; c < 6; c++) {
            due.is("secret", x.secret(0, 0), c);
        }
        due.is("a seventh", x.secret(0, 0), Due.FULL);
        due.is("a seventh", x.agree(0, 1, 0), Due.FULL);
        due.is("outside ahead of full", x.agree(0, 1, 7), Due.OUTSIDE);
        due.is("unknown ahead of full", x.secret(0, 1), Due.UNKNOWN);
        due.is("told(3)", x.told(3), 6);
        due.is("broken without a run", x.broken(0), Due.STATE);
        due.is("unknown ahead of no run", x.broken(6), Due.UNKNOWN);
        x.begin();
        due.is("broken", x.broken(0), 0);
        due.is("no claim", x.broken(-1), Due.UNKNOWN);
    }

    private static void secrets() {
        SealProbe x = new SealProbe();
        int a = x.agent(true);
        x.role();
        int p = x.variable(0, 0, 0);
        int n = x.variable(0, 1, 1);
        int k = x.variable(0, 1, 2);
        x.variable(0, 2, 3);
        x.event(0, true, x.term(5, n, k));
        x.event(0, true, x.term(4, p, k));
        x.session(0, a, 0, 0);
        x.secret(0, 0);
        x.secret(0, 1);
        x.secret(0, 2);
        x.secret(0, 3);
        x.begin();
        due.is("an agent is no secret", x.broken(0), 1);
        due.is("n", x.broken(1), 0);
        x.send(0);
        due.is("sealed", x.broken(1), 0);
        due.is("its key", x.broken(2), 0);
        x.send(0);
        due.is("the key was sent", x.broken(1), 1);
        due.is("the key", x.broken(2), 1);
        due.is("stands for nothing", x.broken(3), 0);
        x.undo();
        due.is("undone", x.broken(1), 0);
    }

    private static void secretOfHonestOnesAlone() {
        SealProbe x = new SealProbe();
        int good = x.agent(true);
        int bad = x.agent(false);
        x.role();
        x.variable(0, 0, 0);
        int b = x.variable(0, 0, 0);
        int n = x.variable(0, 1, 1);
        x.event(0, true, n);
        x.session(0, good, bad, 0);
        x.session(0, bad, good, 0);
        x.secret(0, 2);
        x.begin();
        x.send(0);
        x.send(1);
        due.is("one of them is not honest", x.broken(0), 0);
        x.end();
        x.session(0, good, good, 0);
        x.begin();
        due.is("not sent", x.broken(0), 0);
        x.send(2);
        due.is("all are honest", x.broken(0), 1);
        due.is("a parameter", x.about(b, 8), 1);
    }

    /** Two roles, b receives an atom that is known, a sends it twice. */
    private static SealProbe twoRoles() {
        SealProbe x = new SealProbe();
        x.agent(true);
        x.agent(false);
        int m = x.atom(1);
        x.know(m);
        x.role();
        x.variable(0, 0, 0);
        int v = x.variable(0, 2, 1);
        x.event(0, false, v);
        x.role();
        x.variable(1, 0, 0);
        x.event(1, true, m);
        x.event(1, true, m);
        return x;
    }

    private static void agreements() {
        SealProbe x = twoRoles();
        x.session(0, 0, 0, 0);
        x.session(1, 1, 0, 0);
        x.agree(0, 1, 0);
        x.agree(0, 1, 1);
        x.agree(0, 1, 2);
        x.begin();
        due.is("b has not done all", x.broken(2), 0);
        due.is("receive", x.receive(0, 2), 1);
        due.is("n = 0", x.broken(0), 0);
        due.is("n = 1", x.broken(1), 1);
        x.send(1);
        due.is("n = 1", x.broken(1), 0);
        due.is("n = 2", x.broken(2), 1);
        x.send(1);
        due.is("n = 2", x.broken(2), 0);
        x.end();

        SealProbe y = twoRoles();
        y.session(0, 1, 0, 0);
        y.agree(0, 1, 0);
        y.begin();
        y.receive(0, 2);
        due.is("b is not honest", y.broken(0), 0);
        y.end();
        y.session(0, 0, 0, 0);
        y.begin();
        y.receive(1, 2);
        due.is("there is no session of a", y.broken(0), 1);
    }

    private static void agreementWithItself() {
        SealProbe x = new SealProbe();
        x.role();
        x.agree(0, 0, 0);
        x.begin();
        due.is("no session asks", x.broken(0), 0);
        x.end();
        x.session(0, 0, 0, 0);
        x.begin();
        due.is("another than itself", x.broken(0), 1);
        x.end();
        x.session(0, 0, 0, 0);
        x.begin();
        due.is("each has the other", x.broken(0), 0);
        x.end();
        x.session(0, 0, 0, 0);
        x.begin();
        due.is("three go round", x.broken(0), 0);
    }

    private static void noTwoTheSame() {
        SealProbe x = twoRoles();
        x.session(0, 0, 0, 0);
        x.session(0, 0, 0, 0);
        x.session(1, 0, 0, 0);
        x.agree(0, 1, 0);
        x.begin();
        x.receive(0, 2);
        due.is("one asks", x.broken(0), 0);
        x.receive(1, 2);
        due.is("two ask for one", x.broken(0), 1);
        x.end();
        x.session(1, 0, 0, 0);
        x.begin();
        x.receive(0, 2);
        x.receive(1, 2);
        due.is("two ask for two", x.broken(0), 0);
    }

    /** The first one that asks fits both, the second one only the first: it must not be taken. */
    private static void othersMustGiveWay() {
        SealProbe x = new SealProbe();
        int p = x.agent(true);
        int q = x.agent(true);
        x.role();
        x.variable(0, 0, 0);
        x.variable(0, 1, 1);
        x.role();
        x.variable(1, 0, 0);
        x.role();
        x.variable(2, 0, 0);
        int n = x.variable(2, 1, 1);
        x.event(2, true, n);
        x.session(0, p, 0, 0);
        x.session(0, q, 0, 0);
        x.session(1, q, 0, 0);
        x.session(1, p, 0, 0);
        x.agree(0, 1, 0);
        x.join(0, 0, 0);
        x.begin();
        due.is("crosswise", x.broken(0), 0);
        x.end();

        SealProbe y = new SealProbe();
        y.agent(true);
        y.atom(1);
        y.atom(1);
        y.know(1);
        y.know(2);
        y.role();
        int v = y.variable(0, 2, 1);
        y.event(0, false, v);
        for (int s = 0; s < 4; s++) {
            y.session(0, 0, 0, 0);
        }
        y.agree(0, 0, 1);
        y.join(0, 0, 0);
        y.begin();
        y.receive(0, 1);
        due.is("alone", y.broken(0), 1);
        y.receive(1, 1);
        due.is("two of a kind", y.broken(0), 0);
        y.receive(2, 2);
        due.is("one of another", y.broken(0), 1);
        y.receive(3, 2);
        due.is("two and two", y.broken(0), 0);
        y.undo();
        y.receive(3, 1);
        due.is("three and one", y.broken(0), 1);
    }

    private static void joined() {
        SealProbe x = new SealProbe();
        int m = x.atom(1);
        int o = x.atom(1);
        x.know(m);
        x.know(o);
        for (int r = 0; r < 2; r++) {
            x.role();
            int v = x.variable(r, 2, 1);
            int w = x.variable(r, 2, 1);
            x.event(r, false, v);
            x.event(r, false, w);
        }
        x.session(0, 0, 0, 0);
        x.session(1, 0, 0, 0);
        x.agree(0, 1, 1);
        x.join(0, 0, 0);
        x.agree(0, 1, 0);
        x.join(1, 0, 1);
        x.join(1, 1, 0);
        x.begin();
        x.receive(0, m);
        x.receive(0, o);
        due.is("none done", x.broken(0), 1);
        x.receive(1, m);
        due.is("the first one is the same", x.broken(0), 0);
        x.undo();
        x.receive(1, o);
        due.is("it is not", x.broken(0), 1);
        due.is("one of two is", x.broken(1), 1);
        x.receive(1, m);
        due.is("both are, crosswise", x.broken(1), 0);
    }

    private static void nothingIsNotTheSame() {
        SealProbe x = new SealProbe();
        x.role();
        x.variable(0, 2, 1);
        x.role();
        x.variable(1, 2, 1);
        x.session(0, 0, 0, 0);
        x.session(1, 0, 0, 0);
        x.agree(0, 1, 0);
        x.begin();
        due.is("nothing joined", x.broken(0), 0);
        x.join(0, 0, 0);
        due.is("both stand for nothing", x.broken(0), 1);
    }
}
