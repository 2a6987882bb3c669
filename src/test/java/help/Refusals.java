import java.util.ArrayList;
import java.util.List;
import java.util.function.Consumer;
import java.util.function.ToIntFunction;

/**
 * Calls that are refused, each on a new object that was made by the same story: its answer, and
 * that the object then answers everything as it does without it. No object gets more calls than
 * the document allows: questions are asked in parts, each of an object of its own.
 */
final class Refusals {
    private static final int PART = 100;

    private final Due due;
    private final Consumer<SealProbe> story;
    private final List<List<Asked>> parts = new ArrayList<>();
    private final List<int[]> answers = new ArrayList<>();
    private List<Asked> part = new ArrayList<>();

    private record Asked(String name, ToIntFunction<SealProbe> call) { }

    Refusals(Due due, Consumer<SealProbe> story) {
        this.due = due;
        this.story = story;
        SealProbe x = told();
        askTerms(x.told(0));
        askRoles(x.told(1));
        askRun(x.told(2), x.told(3), x.told(0));
        askFound();
        goOnWithTerms(x.told(0));
        goOnWithRoles(x.told(0));
        goOnWithClaims();
        goOnWithRun(x.told(2), x.told(0));
        goOnWithSearch();
        goOnWithRow();
        for (List<Asked> p : parts) {
            answers.add(askAll(told(), p));
        }
    }

    /** The call answers as due, and nothing else has changed. */
    void is(String name, ToIntFunction<SealProbe> call, int want) {
        due.is(name, call.applyAsInt(told()), want);
        for (int i = 0; i < parts.size(); i++) {
            SealProbe x = told();
            call.applyAsInt(x);
            if (!compare(name, i, askAll(x, parts.get(i)))) {
                return;
            }
        }
    }

    /** An object that another story made answers everything as one that this story made. */
    void isAs(String name, Consumer<SealProbe> otherStory) {
        for (int i = 0; i < parts.size(); i++) {
            SealProbe x = new SealProbe();
            otherStory.accept(x);
            due.is(name, compare(name, i, askAll(x, parts.get(i))));
        }
    }

    private boolean compare(String name, int i, int[] got) {
        for (int j = 0; j < got.length; j++) {
            if (got[j] != answers.get(i)[j]) {
                due.is("after " + name + ": " + parts.get(i).get(j).name, got[j], answers.get(i)[j]);
                return false;
            }
        }
        return true;
    }

    private SealProbe told() {
        SealProbe x = new SealProbe();
        story.accept(x);
        return x;
    }

    private static int[] askAll(SealProbe x, List<Asked> part) {
        int[] got = new int[part.size()];
        for (int j = 0; j < got.length; j++) {
            got[j] = part.get(j).call.applyAsInt(x);
        }
        return got;
    }

    private void ask(String name, ToIntFunction<SealProbe> call) {
        part.add(new Asked(name, call));
        if (part.size() == PART) {
            newPart();
        }
    }

    private void newPart() {
        if (!part.isEmpty()) {
            parts.add(part);
            part = new ArrayList<>();
        }
    }

    private void askTerms(int terms) {
        for (int what = 0; what <= 5; what++) {
            int w = what;
            ask("told(" + w + ")", x -> x.told(w));
        }
        for (int term = 0; term <= terms; term++) {
            int t = term;
            for (int what = 0; what <= 8; what++) {
                int w = what;
                ask("about(" + t + ", " + w + ")", x -> x.about(t, w));
            }
        }
        newPart();
    }

    private void askRoles(int roles) {
        int[] whats = {0, 1, 2, 10, 11, 12, 13, 14, 15, 20, 21, 22, 23, 24, 25, 30, 31, 32, 33, 34, 35};
        for (int role = 0; role <= roles; role++) {
            int r = role;
            for (int w : whats) {
                ask("ofRole(" + r + ", " + w + ")", x -> x.ofRole(r, w));
            }
        }
        newPart();
    }

    private void askRun(int sessions, int claims, int terms) {
        for (int session = 0; session <= sessions; session++) {
            int s = session;
            ask("done(" + s + ")", x -> x.done(s));
            for (int variable = 0; variable <= 6; variable++) {
                int v = variable;
                ask("stands(" + s + ", " + v + ")", x -> x.stands(s, v));
            }
        }
        for (int claim = 0; claim <= claims; claim++) {
            int c = claim;
            ask("broken(" + c + ")", x -> x.broken(c));
        }
        for (int place = 0; place < 60; place++) {
            int i = place;
            for (int what = 0; what <= 3; what++) {
                int w = what;
                ask("row(" + i + ", " + w + ")", x -> x.row(i, w));
            }
        }
        for (int term = 0; term <= terms; term++) {
            int t = term;
            ask("makes(" + t + ")", x -> x.makes(t));
        }
        newPart();
    }

    private void askFound() {
        for (int what = 0; what <= 3; what++) {
            int w = what;
            ask("found(" + w + ")", x -> x.found(w));
        }
        for (int event = 0; event <= 24; event++) {
            int k = event;
            ask("attack(" + k + ")", x -> x.attack(k));
        }
        newPart();
    }

    private void goOnWithTerms(int terms) {
        ask("agent(true)", x -> x.agent(true));
        ask("atom(1)", x -> x.atom(1));
        ask("term(4, 0, 1)", x -> x.term(4, 0, 1));
        ask("of(8, 1, 0)", x -> x.of(8, 1, 0));
        for (int term = 0; term < terms && term < 80; term++) {
            int t = term;
            ask("know(" + t + ")", x -> x.know(t));
        }
        newPart();
    }

    private void goOnWithRoles(int terms) {
        for (int role = 0; role < 4; role++) {
            int r = role;
            ask("session(" + r + ", 0, 0, 0)", x -> x.session(r, 0, 0, 0));
            ask("variable(" + r + ", 2, 3)", x -> x.variable(r, 2, 3));
        }
        newPart();
        ask("role()", x -> x.role());
        for (int term = 0; term < terms && term < 20; term++) {
            int t = term;
            for (int role = 0; role < 4; role++) {
                int r = role;
                ask("event(" + r + ", true, " + t + ")", x -> x.event(r, true, t));
            }
        }
        newPart();
    }

    private void goOnWithClaims() {
        for (int claim = 0; claim < 6; claim++) {
            int c = claim;
            ask("join(" + c + ", 0, 0)", x -> x.join(c, 0, 0));
        }
        ask("secret(0, 0)", x -> x.secret(0, 0));
        ask("agree(0, 0, 0)", x -> x.agree(0, 0, 0));
        newPart();
    }

    private void goOnWithRun(int sessions, int terms) {
        ask("undo()", x -> x.undo());
        ask("told(5)", x -> x.told(5));
        ask("end()", x -> x.end());
        ask("begin()", x -> x.begin());
        newPart();
        for (int round = 0; round < 3; round++) {
            for (int session = 0; session < sessions; session++) {
                int s = session;
                ask("send(" + s + ")", x -> x.send(s));
                for (int term = 0; term < terms && term < 20; term++) {
                    int t = term;
                    ask("receive(" + s + ", " + t + ")", x -> x.receive(s, t));
                }
            }
        }
        newPart();
        ask("clear()", x -> x.clear());
        ask("told(5)", x -> x.told(5));
        newPart();
    }

    private void goOnWithSearch() {
        ask("play(0)", x -> x.play(0));
        ask("play(1)", x -> x.play(1));
        ask("told(5)", x -> x.told(5));
        ask("search()", x -> x.search());
        for (int what = 0; what <= 3; what++) {
            int w = what;
            ask("found(" + w + ")", x -> x.found(w));
        }
        ask("attack(0)", x -> x.attack(0));
        newPart();
    }

    private void goOnWithRow() {
        for (int place = 0; place < 60; place++) {
            int i = place;
            ask("row(" + i + ", 4)", x -> x.row(i, 4));
        }
        ask("told(0)", x -> x.told(0));
        newPart();
    }
}
