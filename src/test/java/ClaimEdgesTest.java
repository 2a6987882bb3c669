/** When CLAIMS are BROKEN: the edges of each sentence of it, by hand and as THE SEARCH asks. */
public final class ClaimEdgesTest {
    private static final Due due = new Due();

    public static void main(String[] args) {
        noSessions();
        honestParameters();
        whatAVariableIs();
        anySessionOfIt();
        theSameAtomElsewhere();
        allEventsOrOneFewer();
        nOrOneFewer();
        moreThanThereAre();
        partnersNeedNotBeHonest();
        askersAreHonest();
        anotherThanItself();
        asManyAsAsk();
        eachItsOwn();
        eachJoinedOne();
        joinedLater();
        standsForNothing();
        joinedToTheSameOne();
        undone();
        due.close();
    }

    private static void noSessions() {
        SealProbe x = new SealProbe();
        x.role();
        x.variable(0, 0, 0);
        x.secret(0, 0);
        x.agree(0, 0, 0);
        due.is("search", x.search(), 0);
        x.begin();
        due.is("secret", x.broken(0), 0);
        due.is("agree", x.broken(1), 0);
    }

    /** Of none, one, two, three PARAMETERS, each HONEST or not: what is sent counts if all are. */
    private static void honestParameters() {
        for (int parameters = 0; parameters <= 3; parameters++) {
            for (int honest = 0; honest < 8; honest++) {
                SealProbe x = new SealProbe();
                x.agent(true);
                x.agent(false);
                x.role();
                for (int v = 0; v < parameters; v++) {
                    x.variable(0, 0, 0);
                }
                x.event(0, true, x.variable(0, 1, 1));
                x.session(0, honest & 1, honest >> 1 & 1, honest >> 2 & 1);
                x.secret(0, parameters);
                x.agree(0, 0, 0);
                boolean all = (honest & (1 << parameters) - 1) == 0;
                x.begin();
                due.is("secret ahead of it", x.broken(0), 0);
                due.is("agree ahead of it", x.broken(1), 0);
                due.is("send", x.send(0), 1);
                due.is("secret of " + parameters + ", " + honest, x.broken(0), all ? 1 : 0);
                due.is("agree of " + parameters + ", " + honest, x.broken(1), all ? 1 : 0);
                due.is("search", x.search(), all ? 1 : 0);
            }
        }
    }

    private static void whatAVariableIs() {
        SealProbe x = new SealProbe();
        int a = x.agent(true);
        int n = x.atom(1);
        int o = x.atom(1);
        x.know(n);
        x.role();
        x.variable(0, 0, 0);
        x.variable(0, 1, 1);
        int v = x.variable(0, 2, 3);
        int w = x.variable(0, 2, 3);
        x.event(0, false, v);
        x.event(0, false, x.term(4, w, w));
        x.session(0, a, 0, 0);
        for (int c = 0; c < 4; c++) {
            x.secret(0, c);
        }
        x.begin();
        due.is("a parameter", x.broken(0), 1);
        due.is("a fresh one", x.broken(1), 0);
        due.is("received, stands for nothing", x.broken(2), 0);
        int made = x.term(9, x.term(4, n, a), 0);
        due.is("receive", x.receive(0, made), 1);
        due.is("stands for what is made, though not there", x.broken(2), 1);
        due.is("the other stands for nothing", x.broken(3), 0);
        due.is("not made", x.receive(0, x.term(4, o, o)), Due.NO);
        due.is("receive", x.receive(0, x.term(4, a, a)), 2);
        due.is("stands for an agent", x.broken(3), 1);
    }

    /** One SESSION of the ROLE is enough; another ROLE's do not count. */
    private static void anySessionOfIt() {
        SealProbe x = new SealProbe();
        x.agent(true);
        x.agent(false);
        for (int r = 0; r < 2; r++) {
            x.role();
            x.variable(r, 0, 0);
            x.event(r, true, x.variable(r, 1, 1));
        }
        x.session(0, 1, 0, 0);
        x.session(1, 0, 0, 0);
        x.session(0, 0, 0, 0);
        x.session(0, 0, 0, 0);
        x.secret(0, 1);
        x.secret(1, 1);
        x.begin();
        x.send(0);
        due.is("it is not honest", x.broken(0), 0);
        x.send(1);
        due.is("of another role", x.broken(0), 0);
        due.is("of the other claim", x.broken(1), 1);
        x.send(3);
        due.is("the last one", x.broken(0), 1);
        x.undo();
        x.send(2);
        due.is("the one ahead", x.broken(0), 1);
    }

    /** What a SESSION that is not HONEST tells breaks the secret of one that is. */
    private static void theSameAtomElsewhere() {
        SealProbe x = new SealProbe();
        x.agent(true);
        x.agent(false);
        int n = x.atom(1);
        x.role();
        x.variable(0, 0, 0);
        int v = x.variable(0, 2, 1);
        x.event(0, true, x.of(6, n, 0));
        x.event(0, false, x.of(6, v, 0));
        x.role();
        int p = x.variable(1, 0, 0);
        x.event(1, true, x.of(6, n, p));
        x.session(0, 0, 0, 0);
        x.session(1, 1, 0, 0);
        x.secret(0, 1);
        x.begin();
        x.send(0);
        due.is("receive", x.receive(0, x.of(6, n, 0)), 2);
        due.is("locked", x.broken(0), 0);
        x.send(1);
        due.is("locked for one that is not honest", x.broken(0), 1);
        due.is("search", x.search(), 1);
        due.is("its events", x.found(2), 3);
    }

    /** ROLE 0 of k EVENTS: it asks when all are done. */
    private static void allEventsOrOneFewer() {
        for (int events = 0; events <= 6; events++) {
            SealProbe x = new SealProbe();
            int n = x.atom(1);
            x.role();
            for (int k = 0; k < events; k++) {
                x.event(0, true, n);
            }
            x.session(0, 0, 0, 0);
            x.agree(0, 0, 0);
            x.begin();
            for (int k = 0; k < events; k++) {
                due.is(k + " of " + events, x.broken(0), 0);
                x.send(0);
            }
            due.is("all of " + events, x.broken(0), 1);
            due.is("search", x.search(), 1);
            due.is("its events", x.found(2), events);
        }
    }

    /** ROLE 1 does six EVENTS; each n is met by n of them and not by one fewer. */
    private static void nOrOneFewer() {
        for (int n = 0; n <= 6; n++) {
            SealProbe x = new SealProbe();
            int m = x.atom(1);
            x.role();
            x.role();
            for (int k = 0; k < 6; k++) {
                x.event(1, true, m);
            }
            x.session(0, 0, 0, 0);
            x.session(1, 0, 0, 0);
            x.agree(0, 1, n);
            x.begin();
            for (int k = 0; k <= 6; k++) {
                due.is(k + " done, n = " + n, x.broken(0), k < n ? 1 : 0);
                due.is("send", x.send(1), k < 6 ? 1 : Due.NO);
            }
        }
    }

    private static void moreThanThereAre() {
        SealProbe x = new SealProbe();
        int m = x.atom(1);
        x.role();
        x.role();
        x.event(1, true, m);
        x.session(0, 0, 0, 0);
        x.session(1, 0, 0, 0);
        x.agree(0, 1, 1);
        x.agree(0, 1, 2);
        x.begin();
        x.send(1);
        due.is("all that it has", x.broken(0), 0);
        due.is("one more than it has", x.broken(1), 1);
    }

    private static SealProbe askAndBeAsked(int asks, int isAsked) {
        SealProbe x = new SealProbe();
        x.agent(true);
        x.agent(false);
        x.role();
        x.variable(0, 0, 0);
        x.role();
        x.variable(1, 0, 0);
        x.session(0, asks, 0, 0);
        x.session(1, isAsked, 0, 0);
        x.agree(0, 1, 0);
        x.agree(1, 1, 0);
        x.begin();
        return x;
    }

    private static void partnersNeedNotBeHonest() {
        due.is("both are honest", askAndBeAsked(0, 0).broken(0), 0);
        due.is("the partner is not", askAndBeAsked(0, 1).broken(0), 0);
        due.is("none is", askAndBeAsked(1, 1).broken(0), 0);
    }

    private static void askersAreHonest() {
        due.is("it is alone and honest", askAndBeAsked(0, 0).broken(1), 1);
        due.is("it is alone and not honest", askAndBeAsked(0, 1).broken(1), 0);
    }

    private static void anotherThanItself() {
        for (int sessions = 0; sessions <= 4; sessions++) {
            SealProbe x = new SealProbe();
            x.role();
            x.agree(0, 0, 0);
            for (int s = 0; s < sessions; s++) {
                x.session(0, 0, 0, 0);
            }
            x.begin();
            due.is(sessions + " of them", x.broken(0), sessions == 1 ? 1 : 0);
        }
    }

    /** Askers and asked: no two have the same one. */
    private static void asManyAsAsk() {
        for (int askers = 0; askers <= 4; askers++) {
            for (int asked = 0; askers + asked <= 4; asked++) {
                SealProbe x = new SealProbe();
                x.role();
                x.role();
                for (int s = 0; s < askers; s++) {
                    x.session(0, 0, 0, 0);
                }
                for (int s = 0; s < asked; s++) {
                    x.session(1, 0, 0, 0);
                }
                x.agree(0, 1, 0);
                x.begin();
                due.is(askers + " ask " + asked, x.broken(0), askers > asked ? 1 : 0);
            }
        }
    }

    /** Two ask and two are asked, straight or crosswise: each has one of its own. */
    private static void eachItsOwn() {
        for (int way = 0; way < 4; way++) {
            SealProbe x = new SealProbe();
            int n = x.atom(1);
            int m = x.atom(1);
            x.know(n);
            x.know(m);
            for (int r = 0; r < 2; r++) {
                x.role();
                x.event(r, false, x.variable(r, 2, 1));
            }
            for (int s = 0; s < 4; s++) {
                x.session(s / 2, 0, 0, 0);
            }
            x.agree(0, 1, 1);
            x.join(0, 0, 0);
            x.begin();
            x.receive(0, (way & 1) == 0 ? n : m);
            x.receive(1, (way & 1) == 0 ? m : n);
            due.is("nobody was there", x.broken(0), 1);
            x.receive(2, (way & 2) == 0 ? n : m);
            due.is("one alone was", x.broken(0), 1);
            x.receive(3, (way & 2) == 0 ? m : n);
            due.is("each has the other's", x.broken(0), 0);
            x.undo();
            x.receive(3, x.stands(2, 0));
            due.is("both are of one kind", x.broken(0), 1);
        }
    }

    /** Four pairs are JOINED; any one that is not the same breaks it. */
    private static void eachJoinedOne() {
        for (int joined = 0; joined <= 4; joined++) {
            for (int odd = -1; odd < 4; odd++) {
                SealProbe x = new SealProbe();
                int n = x.atom(1);
                int m = x.atom(1);
                x.know(n);
                x.know(m);
                for (int r = 0; r < 2; r++) {
                    x.role();
                    for (int v = 0; v < 4; v++) {
                        x.event(r, false, x.variable(r, 2, 1));
                    }
                    x.session(r, 0, 0, 0);
                }
                x.agree(0, 1, 0);
                for (int j = 0; j < joined; j++) {
                    due.is("join", x.join(0, j, j), j + 1);
                }
                x.begin();
                for (int v = 0; v < 4; v++) {
                    x.receive(0, n);
                    x.receive(1, v == odd ? m : n);
                }
                due.is(joined + " joined, " + odd + " is odd", x.broken(0), odd >= 0 && odd < joined ? 1 : 0);
            }
        }
    }

    /** CLAIMS may be told while there is a RUN; they count at once. */
    private static void joinedLater() {
        SealProbe x = new SealProbe();
        x.agent(true);
        x.agent(true);
        for (int r = 0; r < 2; r++) {
            x.role();
            x.variable(r, 0, 0);
            x.variable(r, 0, 0);
        }
        x.session(0, 0, 1, 0);
        x.session(1, 1, 0, 0);
        x.begin();
        due.is("agree", x.agree(0, 1, 0), 0);
        due.is("nothing joined", x.broken(0), 0);
        due.is("join", x.join(0, 0, 1), 1);
        due.is("crosswise", x.broken(0), 0);
        due.is("join", x.join(0, 1, 0), 2);
        due.is("both crosswise", x.broken(0), 0);
        due.is("join", x.join(0, 1, 1), 3);
        due.is("straight", x.broken(0), 1);
    }

    /** On either side, or on both, what stands for nothing is not the same. */
    private static void standsForNothing() {
        for (int way = 0; way < 4; way++) {
            SealProbe x = new SealProbe();
            int n = x.atom(1);
            x.know(n);
            for (int r = 0; r < 2; r++) {
                x.role();
                int v = x.variable(r, 2, 1);
                if ((way >> r & 1) == 1) {
                    x.event(r, false, v);
                }
                x.session(r, 0, 0, 0);
            }
            x.agree(0, 1, 0);
            x.join(0, 0, 0);
            x.begin();
            for (int r = 0; r < 2; r++) {
                due.is("receive", x.receive(r, n), (way >> r & 1) == 1 ? 1 : Due.NO);
            }
            due.is("way " + way, x.broken(0), way == 3 ? 0 : 1);
        }
    }

    /** Two VARIABLES of b joined to one of a: they must be the same themselves. */
    private static void joinedToTheSameOne() {
        for (int way = 0; way < 2; way++) {
            SealProbe x = new SealProbe();
            x.agent(true);
            x.agent(true);
            x.role();
            x.variable(0, 0, 0);
            x.variable(0, 0, 0);
            x.role();
            x.variable(1, 0, 0);
            x.session(0, 0, way, 0);
            x.session(1, 0, 0, 0);
            x.agree(0, 1, 0);
            x.join(0, 0, 0);
            x.join(0, 1, 0);
            x.begin();
            due.is("both are " + (way == 0 ? "" : "not ") + "the same", x.broken(0), way);
        }
    }

    private static void undone() {
        SealProbe x = new SealProbe();
        int m = x.atom(1);
        x.role();
        int f = x.variable(0, 1, 1);
        x.event(0, true, x.term(4, m, f));
        x.session(0, 0, 0, 0);
        x.secret(0, 0);
        x.agree(0, 0, 1);
        x.begin();
        for (int round = 0; round < 2; round++) {
            due.is("secret", x.broken(0), 0);
            due.is("agree", x.broken(1), 0);
            due.is("send", x.send(0), 3);
            due.is("secret", x.broken(0), 1);
            due.is("agree", x.broken(1), 1);
            due.is("undo", x.undo(), 0);
        }
    }
}
