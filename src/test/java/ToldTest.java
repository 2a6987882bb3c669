/** Promises 29 to 31. */
public final class ToldTest {
    private static final Due due = new Due();

    public static void main(String[] args) {
        told();
        ofRole();
        clear();
        oddNumbers();
        due.close();
    }

    private static SealProbe some() {
        SealProbe x = new SealProbe();
        int a = x.agent(true);
        int n = x.atom(1);
        x.know(n);
        x.role();
        x.role();
        x.role();
        int p = x.variable(1, 0, 0);
        int v = x.variable(1, 2, 3);
        int f = x.variable(1, 1, 1);
        x.event(1, false, v);
        x.event(1, true, x.of(6, f, p));
        x.session(1, a, 0, 0);
        x.session(0, 0, 0, 0);
        x.secret(1, 2);
        x.agree(0, 1, 2);
        x.agree(1, 0, 2);
        x.agree(1, 1, 2);
        return x;
    }

    private static void told() {
        SealProbe x = some();
        int[] want = {7, 3, 2, 4, 1, Due.NONE};
        for (int what = 0; what < 6; what++) {
            due.is("told(" + what + ")", x.told(what), want[what]);
        }
        due.is("told(6)", x.told(6), Due.OUTSIDE);
        due.is("told(-1)", x.told(-1), Due.OUTSIDE);
        x.begin();
        due.is("told(5)", x.told(5), 0);
        x.receive(0, 0);
        due.is("told(5)", x.told(5), 1);
    }

    private static void ofRole() {
        SealProbe x = some();
        int[] lonely = {0, 0, 0};
        int[] busy = {3, 2, 1};
        for (int what = 0; what < 3; what++) {
            due.is("ofRole(2, " + what + ")", x.ofRole(2, what), lonely[what]);
            due.is("ofRole(1, " + what + ")", x.ofRole(1, what), busy[what]);
        }
        int[] terms = {3, 5, Due.NONE, Due.NONE, Due.NONE, Due.NONE};
        int[] sends = {0, 1, Due.NONE, Due.NONE, Due.NONE, Due.NONE};
        int[] as = {0, 2, 1, Due.NONE, Due.NONE, Due.NONE};
        for (int k = 0; k < 6; k++) {
            due.is("term of event " + k, x.ofRole(1, 10 + k), terms[k]);
            due.is("event " + k + " sends", x.ofRole(1, 20 + k), sends[k]);
            due.is("variable " + k + " told as", x.ofRole(1, 30 + k), as[k]);
            due.is("none", x.ofRole(2, 10 + k), Due.NONE);
            due.is("none", x.ofRole(2, 20 + k), Due.NONE);
            due.is("none", x.ofRole(2, 30 + k), Due.NONE);
        }
        for (int what : new int[] {-1, 3, 9, 16, 19, 26, 29, 36, 40, 100, -10, -20, Integer.MAX_VALUE,
            Integer.MIN_VALUE}) {
            due.is("ofRole(1, " + what + ")", x.ofRole(1, what), Due.OUTSIDE);
        }
        due.is("no role", x.ofRole(3, 0), Due.UNKNOWN);
        due.is("unknown ahead of outside", x.ofRole(-1, 99), Due.UNKNOWN);
    }

    private static void clear() {
        SealProbe x = some();
        x.search();
        x.begin();
        due.is("clear", x.clear(), 7);
        for (int what = 0; what < 5; what++) {
            due.is("told(" + what + ")", x.told(what), 0);
        }
        due.is("told(5)", x.told(5), Due.NONE);
        due.is("found(0)", x.found(0), 0);
        due.is("clear", x.clear(), 0);
        due.is("no role", x.ofRole(0, 0), Due.UNKNOWN);
        due.is("no session", x.done(0), Due.UNKNOWN);
        due.is("no claim", x.join(1, 0, 0), Due.UNKNOWN);
        due.is("agent", x.agent(true), 0);
        due.is("atom", x.atom(1), 1);
        due.is("role", x.role(), 0);
        due.is("it is open", x.ofRole(0, 2), 0);
        due.is("and empty", x.ofRole(0, 1), 0);
        due.is("a received one", x.variable(0, 2, 3), 2);
        due.is("not received yet", x.event(0, true, 2), Due.NO);
        due.is("pair", x.term(4, 0, 1), 3);
        due.is("lock", x.of(6, 1, 0), 4);
        x.begin();
        due.is("nothing is known", x.makes(1), 0);
        due.is("nothing is there", x.row(0, 0), Due.NONE);
        x.end();
        due.is("know", x.know(1), 1);
    }

    /** No number makes the machine throw, in an empty object or another, in a run or not. */
    private static void oddNumbers() {
        int[] odd = {Integer.MIN_VALUE, -1000, -8, -1, 0, 1, 6, 7, 24, 199, 200, 201, 600, 1000, Integer.MAX_VALUE};
        for (int way = 0; way < 4; way++) {
            for (int i : odd) {
                SealProbe x = way == 0 ? new SealProbe() : some();
                if (way == 2) {
                    x.begin();
                }
                if (way == 3) {
                    x.search();
                }
                for (int j : odd) {
                    callAll(x, i, j);
                }
            }
        }
        due.is("all calls came back", true);
    }

    private static void callAll(SealProbe x, int i, int j) {
        x.atom(i);
        x.term(i, j, j);
        x.of(j, i, i);
        x.about(i, j);
        x.variable(i, j, j);
        x.event(i, j > 0, j);
        x.know(i);
        x.session(i, j, j, j);
        x.secret(i, j);
        x.agree(i, j, i);
        x.join(i, j, j);
        x.send(i);
        x.receive(i, j);
        x.makes(i);
        x.row(i, j);
        x.stands(i, j);
        x.done(i);
        x.broken(i);
        x.found(i);
        x.attack(i);
        x.play(i);
        x.told(i);
        x.ofRole(i, j);
    }
}
