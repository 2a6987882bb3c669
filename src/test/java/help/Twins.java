import java.util.ArrayList;
import java.util.List;

/** A SealProbe and a Model that get the same calls; the first answer that differs is told with all calls. */
final class Twins {
    final SealProbe probe = new SealProbe();
    final Model model = new Model();
    final List<String> calls = new ArrayList<>();
    boolean differ;

    private int both(String call, int got, int want) {
        calls.add(call + " = " + got);
        if (got != want && !differ) {
            differ = true;
            System.out.println("differs: due is " + want + " in the last row of");
            for (String c : calls) {
                System.out.println("  " + c);
            }
        }
        return want;
    }

    int agent(boolean h) {
        return both("agent(" + h + ")", probe.agent(h), model.agent(h));
    }

    int atom(int s) {
        return both("atom(" + s + ")", probe.atom(s), model.atom(s));
    }

    int term(int k, int x, int y) {
        return both("term(" + k + ", " + x + ", " + y + ")", probe.term(k, x, y), model.term(k, x, y));
    }

    int of(int k, int x, int a) {
        return both("of(" + k + ", " + x + ", " + a + ")", probe.of(k, x, a), model.of(k, x, a));
    }

    int about(int t, int w) {
        return both("about(" + t + ", " + w + ")", probe.about(t, w), model.about(t, w));
    }

    int role() {
        return both("role()", probe.role(), model.role());
    }

    int variable(int r, int as, int s) {
        return both("variable(" + r + ", " + as + ", " + s + ")", probe.variable(r, as, s), model.variable(r, as, s));
    }

    int event(int r, boolean s, int t) {
        return both("event(" + r + ", " + s + ", " + t + ")", probe.event(r, s, t), model.event(r, s, t));
    }

    int know(int t) {
        return both("know(" + t + ")", probe.know(t), model.know(t));
    }

    int session(int r, int a, int b, int c) {
        return both("session(" + r + ", " + a + ", " + b + ", " + c + ")", probe.session(r, a, b, c),
                model.session(r, a, b, c));
    }

    int secret(int r, int v) {
        return both("secret(" + r + ", " + v + ")", probe.secret(r, v), model.secret(r, v));
    }

    int agree(int b, int a, int n) {
        return both("agree(" + b + ", " + a + ", " + n + ")", probe.agree(b, a, n), model.agree(b, a, n));
    }

    int join(int c, int b, int a) {
        return both("join(" + c + ", " + b + ", " + a + ")", probe.join(c, b, a), model.join(c, b, a));
    }

    int begin() {
        return both("begin()", probe.begin(), model.begin());
    }

    int end() {
        return both("end()", probe.end(), model.end());
    }

    int send(int s) {
        return both("send(" + s + ")", probe.send(s), model.send(s));
    }

    int receive(int s, int t) {
        return both("receive(" + s + ", " + t + ")", probe.receive(s, t), model.receive(s, t));
    }

    int makes(int t) {
        return both("makes(" + t + ")", probe.makes(t), model.makes(t));
    }

    int row(int i, int w) {
        return both("row(" + i + ", " + w + ")", probe.row(i, w), model.row(i, w));
    }

    int stands(int s, int v) {
        return both("stands(" + s + ", " + v + ")", probe.stands(s, v), model.stands(s, v));
    }

    int done(int s) {
        return both("done(" + s + ")", probe.done(s), model.done(s));
    }

    int broken(int c) {
        return both("broken(" + c + ")", probe.broken(c), model.broken(c));
    }

    int undo() {
        return both("undo()", probe.undo(), model.undo());
    }

    int search() {
        return both("search()", probe.search(), model.search());
    }

    int found(int w) {
        return both("found(" + w + ")", probe.found(w), model.found(w));
    }

    int attack(int k) {
        return both("attack(" + k + ")", probe.attack(k), model.attack(k));
    }

    int play(int n) {
        return both("play(" + n + ")", probe.play(n), model.play(n));
    }

    int told(int w) {
        return both("told(" + w + ")", probe.told(w), model.told(w));
    }

    int ofRole(int r, int w) {
        return both("ofRole(" + r + ", " + w + ")", probe.ofRole(r, w), model.ofRole(r, w));
    }

    int clear() {
        return both("clear()", probe.clear(), model.clear());
    }
}
