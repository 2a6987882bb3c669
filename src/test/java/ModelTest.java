import java.util.ArrayList;
import java.util.List;
import java.util.Random;

/** Many runs of calls, the same ones each time, answered by SealProbe and by the Model of the document. */
public final class ModelTest {
    private final Random random;
    private final Twins twins = new Twins();

    private ModelTest(long seed) {
        random = new Random(seed);
    }

    public static void main(String[] args) {
        int runs = args.length > 0 ? Integer.parseInt(args[0]) : 6000;
        long first = args.length > 1 ? Long.parseLong(args[1]) : 0;
        int wrong = 0;
        int[] outcome = new int[4];
        for (long seed = first; seed < first + runs && wrong < 3; seed++) {
            ModelTest test = new ModelTest(seed);
            if (seed % 4 == 0) {
                test.anyCalls();
            } else {
                test.protocol(outcome);
            }
            if (test.twins.differ) {
                System.out.println("(seed " + seed + ")");
                wrong++;
            }
        }
        System.out.println("searches: " + outcome[0] + " whole, " + outcome[1] + " broken, " + outcome[2] + " open, "
                + outcome[3] + " broken late");
        System.out.println(wrong == 0 ? "all answers are as due" : "answers differ");
        if (wrong != 0) {
            System.exit(1);
        }
    }

    private int upTo(int n) {
        return random.nextInt(n + 1);
    }

    /** Mostly one that there is, at times a wrong one. */
    private int some(int count) {
        return random.nextInt(12) == 0 ? random.nextInt(count + 4) - 2 : count == 0 ? 0 : random.nextInt(count);
    }

    private int someTerm() {
        return some(twins.model.terms.size());
    }

    // ---- calls of any kind

    private void anyCalls() {
        int calls = 100 + random.nextInt(400);
        for (int i = 0; i < calls && !twins.differ; i++) {
            anyCall(random.nextInt(40));
        }
    }

    private void anyCall(int which) {
        int roles = twins.model.roles.size();
        int sessions = twins.model.sessions.size();
        int claims = twins.model.claims.size();
        switch (which) {
            case 0: twins.agent(random.nextBoolean()); break;
            case 1: twins.atom(upTo(3)); break;
            case 2: case 3: case 4: twins.term(3 + upTo(7), someTerm(), someTerm()); break;
            case 5: case 6: twins.of(5 + upTo(4), someTerm(), someTerm()); break;
            case 7: twins.about(someTerm(), upTo(10) - 1); break;
            case 8: twins.role(); break;
            case 9: case 10: case 11: twins.variable(some(roles), upTo(3), upTo(3)); break;
            case 12: case 13: case 14: case 15: twins.event(some(roles), random.nextBoolean(), someTerm()); break;
            case 16: twins.know(someTerm()); break;
            case 17: twins.session(some(roles), someTerm(), someTerm(), someTerm()); break;
            case 18: twins.secret(some(roles), upTo(6)); break;
            case 19: twins.agree(some(roles), some(roles), upTo(8) - 1); break;
            case 20: twins.join(some(claims), upTo(6) - 1, upTo(6) - 1); break;
            case 21: twins.begin(); break;
            case 22: twins.end(); break;
            case 23: case 24: twins.send(some(sessions)); break;
            case 25: case 26: case 27: twins.receive(some(sessions), someTerm()); break;
            case 28: twins.makes(someTerm()); break;
            case 29: case 30: twins.row(upTo(20) - 1, upTo(6) - 1); break;
            case 31: twins.stands(some(sessions), upTo(6) - 1); break;
            case 32: twins.done(some(sessions)); break;
            case 33: twins.broken(some(claims)); break;
            case 34: twins.undo(); break;
            case 35: twins.search(); twins.found(upTo(5) - 1); break;
            case 36: twins.attack(upTo(6) - 1); break;
            case 37: twins.play(upTo(6) - 1); break;
            case 38: twins.told(upTo(7) - 1); break;
            default:
                if (random.nextInt(60) == 0) {
                    twins.clear();
                } else {
                    twins.ofRole(some(roles), upTo(38) - 1);
                }
        }
    }

    // ---- protocols that could be some

    private final List<Integer> grounds = new ArrayList<>();

    private int pick(List<Integer> from) {
        return from.get(random.nextInt(from.size()));
    }

    /** A TERM of some of these, wrapped a few times. */
    private int made(List<Integer> leaves, List<Integer> agents, int depth) {
        int which = depth == 0 ? 0 : random.nextInt(9);
        int t;
        switch (which) {
            case 1: case 2:
                t = twins.term(4, made(leaves, agents, depth - 1), made(leaves, agents, depth - 1));
                break;
            case 3: case 4:
                t = twins.term(5, made(leaves, agents, depth - 1), made(leaves, agents, random.nextInt(depth)));
                break;
            case 5: case 6:
                t = twins.of(6, made(leaves, agents, depth - 1), pick(agents));
                break;
            case 7:
                t = random.nextInt(5) == 0 ? twins.of(7, -1, pick(agents))
                        : twins.of(8, made(leaves, agents, depth - 1), pick(agents));
                break;
            case 8:
                t = twins.term(9, made(leaves, agents, depth - 1), 0);
                break;
            default:
                return pick(leaves);
        }
        return t >= 0 ? t : pick(leaves);
    }

    private void protocol(int[] outcome) {
        int agents = 2 + random.nextInt(2);
        List<Integer> people = new ArrayList<>();
        for (int i = 0; i < agents; i++) {
            people.add(twins.agent(random.nextInt(3) != 0));
        }
        grounds.addAll(people);
        int atoms = random.nextInt(3);
        for (int i = 0; i < atoms; i++) {
            grounds.add(twins.atom(1 + random.nextInt(2)));
        }
        int roles = 1 + random.nextInt(2);
        for (int r = 0; r < roles; r++) {
            makeRole(people, random.nextInt(4) == 0);
        }
        if (random.nextInt(3) != 0 && roles == 2) {
            mirror();
        }
        if (random.nextInt(8) == 0) {
            echo(people);
        }
        if (random.nextInt(20) == 0) {
            crowd();
        }
        int knows = random.nextInt(4);
        for (int i = 0; i < knows; i++) {
            twins.know(made(grounds, people, random.nextInt(3)));
        }
        int sessions = 1 + random.nextInt(random.nextInt(3) == 0 ? 4 : 2);
        for (int i = 0; i < sessions; i++) {
            twins.session(random.nextInt(twins.model.roles.size()), pick(people), pick(people), pick(people));
        }
        makeClaims();
        searched(outcome);
        byHand();
        if (random.nextBoolean()) {
            searched(outcome);
        }
        twins.end();
        twins.know(someTerm());
        twins.found(0);
        twins.found(2);
        askAll();
    }

    private void makeRole(List<Integer> people, boolean wide) {
        int r = twins.role();
        List<Integer> leaves = new ArrayList<>();
        List<Integer> agents = new ArrayList<>();
        List<Integer> received = new ArrayList<>();
        int parameters = random.nextInt(3);
        for (int i = 0; i < parameters; i++) {
            int v = twins.variable(r, 0, 0);
            leaves.add(v);
            agents.add(v);
        }
        int fresh = random.nextInt(3);
        for (int i = 0; i < fresh; i++) {
            leaves.add(twins.variable(r, 1, 1 + random.nextInt(2)));
        }
        agents.add(pick(people));
        leaves.add(pick(grounds));
        int gets = random.nextInt(wide ? 4 : 3);
        for (int i = 0; i < gets; i++) {
            int sort = random.nextInt(4);
            int v = twins.variable(r, 2, sort);
            received.add(v);
            if (sort == 0) {
                agents.add(v);
            }
        }
        List<Integer> all = new ArrayList<>(leaves);
        all.addAll(received);
        int events = 1 + random.nextInt(4);
        for (int i = 0; i < events; i++) {
            boolean sends = random.nextBoolean();
            twins.event(r, sends, made(all, agents, 1 + random.nextInt(3)));
        }
    }

    /** A ROLE that sends what it got, larger than any TERM may be, if that was large. */
    private void echo(List<Integer> people) {
        int r = twins.role();
        int v = twins.variable(r, 2, 3);
        int w = twins.variable(r, 1, 1);
        twins.event(r, false, v);
        twins.event(r, true, twins.term(4, twins.term(4, v, w), twins.of(6, v, pick(people))));
        int large = pick(grounds);
        for (int i = 0; i < 4 && large >= 0; i++) {
            large = twins.term(4, large, made(grounds, people, 2));
        }
        twins.session(r, 0, 0, 0);
    }

    /** Hardly any room for TERMS is left. */
    private void crowd() {
        int until = 180 + random.nextInt(20);
        while (twins.model.terms.size() < until) {
            twins.atom(1 + random.nextInt(2));
        }
    }

    /** Lets the second ROLE receive what the first one sends, as far as it can be put in its own VARIABLES. */
    private void mirror() {
        int r = twins.role();
        List<Integer> own = new ArrayList<>();
        for (int i = 0; i < 3; i++) {
            own.add(twins.variable(r, i == 0 ? 0 : 2, i == 0 ? 0 : 1 + random.nextInt(3)));
        }
        for (int k = 0; k < 4; k++) {
            int t = twins.ofRole(0, 10 + k);
            int sends = twins.ofRole(0, 20 + k);
            if (t >= 0) {
                twins.event(r, sends == 0, inOwn(t, own));
            }
        }
    }

    private int inOwn(int t, List<Integer> own) {
        Model.T tree = twins.model.terms.get(t);
        if (tree.kind == 3) {
            return tree.sort == 0 ? own.get(0) : own.get(1 + tree.number % 2);
        }
        int x = tree.of.isEmpty() ? -1 : inOwn(twins.about(t, 1), own);
        int y = tree.of.size() < 2 ? -1 : inOwn(twins.about(t, 2), own);
        switch (tree.kind) {
            case 4: case 5: case 9:
                return twins.term(tree.kind, x, y);
            case 6: case 8:
                return twins.of(tree.kind, x, y);
            case 7:
                return twins.of(7, -1, x);
            default:
                return t;
        }
    }

    private void makeClaims() {
        int claims = random.nextInt(4);
        int roles = twins.model.roles.size();
        for (int i = 0; i < claims; i++) {
            if (random.nextBoolean()) {
                twins.secret(random.nextInt(roles), random.nextInt(5));
            } else {
                int c = twins.agree(random.nextInt(roles), random.nextInt(roles), random.nextInt(4));
                int joins = random.nextInt(3);
                for (int j = 0; j < joins; j++) {
                    twins.join(c, random.nextInt(4), random.nextInt(4));
                }
            }
        }
    }

    private void searched(int[] outcome) {
        int answer = twins.search();
        outcome[answer > 0 ? 1 : answer == 0 ? 0 : 2]++;
        for (int w = 0; w < 4; w++) {
            twins.found(w);
        }
        int length = twins.found(2);
        outcome[3] += length > 2 ? 1 : 0;
        for (int k = 0; k <= length; k++) {
            twins.attack(k);
        }
        if (length >= 0 && random.nextBoolean()) {
            twins.play(random.nextInt(length + 1));
            lookAround();
            twins.play(length);
            lookAround();
            twins.undo();
            lookAround();
        }
    }

    private void lookAround() {
        for (int c = 0; c < twins.model.claims.size(); c++) {
            twins.broken(c);
        }
        for (int s = 0; s < twins.model.sessions.size(); s++) {
            twins.done(s);
            for (int v = 0; v < 4; v++) {
                twins.stands(s, v);
            }
        }
        if (twins.model.history == null) {
            return;
        }
        int length = twins.model.rowOf(twins.model.history.get(twins.model.history.size() - 1)).size();
        for (int i = 0; i <= Math.min(length, 12); i++) {
            for (int w = 0; w < 4; w++) {
                twins.row(i, w);
            }
        }
    }

    private void byHand() {
        if (random.nextInt(4) == 0) {
            twins.begin();
        } else if (twins.model.history == null) {
            twins.begin();
        }
        int sessions = twins.model.sessions.size();
        for (int i = 0; i < 25 && !twins.differ; i++) {
            int s = some(sessions);
            switch (random.nextInt(6)) {
                case 0: case 1:
                    twins.send(s);
                    break;
                case 2: case 3:
                    receiveSome(s);
                    break;
                case 4:
                    if (random.nextInt(3) == 0) {
                        twins.undo();
                    }
                    break;
                default:
                    twins.row(random.nextInt(8), 4);
                    twins.makes(someTerm());
            }
        }
        lookAround();
    }

    private void receiveSome(int session) {
        int count = twins.model.terms.size();
        for (int i = 0; i < 6; i++) {
            if (twins.receive(session, count - 1 - random.nextInt(count)) >= 0) {
                return;
            }
        }
    }

    private void askAll() {
        for (int w = -1; w <= 6; w++) {
            twins.told(w);
        }
        for (int r = 0; r < twins.model.roles.size(); r++) {
            for (int w = 0; w < 36; w++) {
                twins.ofRole(r, w);
            }
        }
        for (int t = 0; t < Math.min(20, twins.model.terms.size()); t++) {
            for (int w = 0; w <= 8; w++) {
                twins.about(t, w);
            }
        }
        twins.clear();
        twins.told(0);
        twins.found(0);
    }
}
