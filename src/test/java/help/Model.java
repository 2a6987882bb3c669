import java.util.ArrayList;
import java.util.HashMap;
import java.util.HashSet;
import java.util.LinkedHashMap;
import java.util.List;
import java.util.Map;
import java.util.Set;

/** The document once more, written to be plain and slow, for runs to be compared with. */
final class Model {
    static final int UNKNOWN = -1, OUTSIDE = -2, STATE = -3, FULL = -4, NO = -5, NONE = -6, OPEN = -7;

    /** A tree; two that are the same have the same text. */
    static final class T {
        final int kind;
        final List<T> of;
        final String text;
        final int size;
        boolean honest;
        int role, sort, number;

        T(int kind, String name, List<T> of) {
            this.kind = kind;
            this.of = of;
            StringBuilder b = new StringBuilder(kind + name + "(");
            int s = 1;
            for (T t : of) {
                b.append(t.text).append(',');
                s += t.size;
            }
            text = b.append(')').toString();
            size = s;
        }

        boolean ground() {
            if (kind == 3) {
                return false;
            }
            for (T t : of) {
                if (!t.ground()) {
                    return false;
                }
            }
            return true;
        }

        boolean same(T o) {
            return o != null && text.equals(o.text);
        }

        void variables(List<T> into) {
            if (kind == 3 && !into.contains(this)) {
                into.add(this);
            }
            for (T t : of) {
                t.variables(into);
            }
        }
    }

    static final class R {
        final List<T> variables = new ArrayList<>();
        final List<Integer> as = new ArrayList<>();
        final List<T> events = new ArrayList<>();
        final List<Boolean> sends = new ArrayList<>();
    }

    static final class S {
        int role;
        final Map<String, T> stands = new HashMap<>();
        boolean honest = true;
    }

    static final class C {
        boolean secret;
        int b, a, n;
        final List<int[]> joined = new ArrayList<>();
    }

    static final class Place {
        T t;
        int how, from;
    }

    /** Where a run is: what each SESSION has done and what its VARIABLES stand for, and who moved. */
    final class World {
        final int[] done = new int[sessions.size()];
        final List<Map<String, T>> stands = new ArrayList<>();
        final List<Integer> movers = new ArrayList<>();

        World() {
            for (S s : sessions) {
                stands.add(new HashMap<>(s.stands));
            }
        }

        World(World o) {
            System.arraycopy(o.done, 0, done, 0, done.length);
            for (Map<String, T> m : o.stands) {
                stands.add(new HashMap<>(m));
            }
            movers.addAll(o.movers);
        }

        String text() {
            StringBuilder b = new StringBuilder();
            for (int i = 0; i < done.length; i++) {
                b.append(done[i]).append(':');
                for (T v : roleOf(i).variables) {
                    T t = stands.get(i).get(v.text);
                    b.append(t == null ? "-" : t.text).append(';');
                }
            }
            return b.toString();
        }

        R roleOf(int s) {
            return roles.get(sessions.get(s).role);
        }

        boolean complete(int s) {
            return done[s] == roleOf(s).events.size();
        }
    }

    List<T> terms = new ArrayList<>();
    List<R> roles = new ArrayList<>();
    List<S> sessions = new ArrayList<>();
    List<C> claims = new ArrayList<>();
    List<T> known = new ArrayList<>();
    int names;
    List<World> history;
    int foundStates, foundWays, foundDone;
    World broke;

    // ---- terms

    private boolean has(int t) {
        return t >= 0 && t < terms.size();
    }

    private int number(T t) {
        for (int i = 0; i < terms.size(); i++) {
            if (terms.get(i).same(t)) {
                return i;
            }
        }
        return -1;
    }

    private int newOne(T t) {
        if (terms.size() >= 200) {
            return FULL;
        }
        terms.add(t);
        return terms.size() - 1;
    }

    private T atomOf(int kind) {
        return new T(kind, "n" + names++, List.of());
    }

    int agent(boolean honest) {
        T t = atomOf(0);
        t.honest = honest;
        return newOne(t);
    }

    int atom(int sort) {
        return sort < 1 || sort > 2 ? OUTSIDE : newOne(atomOf(sort));
    }

    private int compound(int kind, List<T> of) {
        T t = new T(kind, "", of);
        if (t.size > 24) {
            return OUTSIDE;
        }
        int old = number(t);
        return old >= 0 ? old : newOne(t);
    }

    int term(int kind, int x, int y) {
        if (kind == 9) {
            return has(x) ? compound(9, List.of(terms.get(x))) : UNKNOWN;
        }
        if (!has(x) || !has(y)) {
            return UNKNOWN;
        }
        return kind == 4 || kind == 5 ? compound(kind, List.of(terms.get(x), terms.get(y))) : OUTSIDE;
    }

    int of(int kind, int x, int a) {
        if (!has(a) || kind != 7 && !has(x)) {
            return UNKNOWN;
        }
        if (kind < 6 || kind > 8) {
            return OUTSIDE;
        }
        T agent = terms.get(a);
        if (agent.kind != 0 && !(agent.kind == 3 && agent.sort == 0)) {
            return OUTSIDE;
        }
        return compound(kind, kind == 7 ? List.of(agent) : List.of(terms.get(x), agent));
    }

    int about(int term, int what) {
        if (!has(term)) {
            return UNKNOWN;
        }
        if (what < 0 || what > 8) {
            return OUTSIDE;
        }
        T t = terms.get(term);
        if (what == 0) {
            return t.kind;
        }
        if (what <= 2) {
            return what <= t.of.size() ? number(t.of.get(what - 1)) : NONE;
        }
        if (what == 3) {
            return t.size;
        }
        if (what == 4) {
            return t.ground() ? 1 : 0;
        }
        if (what == 5) {
            return t.kind != 0 ? NONE : t.honest ? 1 : 0;
        }
        return t.kind != 3 ? NONE : what == 6 ? t.role : what == 7 ? t.sort : t.number;
    }

    // ---- roles and sessions

    int role() {
        if (roles.size() >= 4) {
            return FULL;
        }
        roles.add(new R());
        return roles.size() - 1;
    }

    private boolean hasRole(int r) {
        return r >= 0 && r < roles.size();
    }

    private boolean closed(int r) {
        for (S s : sessions) {
            if (s.role == r) {
                return true;
            }
        }
        return false;
    }

    int variable(int role, int as, int sort) {
        if (!hasRole(role)) {
            return UNKNOWN;
        }
        boolean fits = as == 0 && sort == 0 || as == 1 && (sort == 1 || sort == 2) || as == 2 && sort >= 0 && sort <= 3;
        if (!fits) {
            return OUTSIDE;
        }
        if (closed(role)) {
            return STATE;
        }
        R r = roles.get(role);
        if (r.variables.size() >= 6 || terms.size() >= 200) {
            return FULL;
        }
        T t = new T(3, "v" + role + "." + r.variables.size(), List.of());
        t.role = role;
        t.sort = sort;
        t.number = r.variables.size();
        r.variables.add(t);
        r.as.add(as);
        return newOne(t);
    }

    int event(int role, boolean sends, int term) {
        if (!hasRole(role) || !has(term)) {
            return UNKNOWN;
        }
        if (closed(role)) {
            return STATE;
        }
        R r = roles.get(role);
        if (r.events.size() >= 6) {
            return FULL;
        }
        List<T> in = new ArrayList<>();
        terms.get(term).variables(in);
        List<T> got = new ArrayList<>();
        for (int k = 0; k < r.events.size(); k++) {
            if (!r.sends.get(k)) {
                r.events.get(k).variables(got);
            }
        }
        for (T v : in) {
            if (v.role != role || sends && r.as.get(v.number) == 2 && !got.contains(v)) {
                return NO;
            }
        }
        r.events.add(terms.get(term));
        r.sends.add(sends);
        return r.events.size();
    }

    int know(int term) {
        if (!has(term)) {
            return UNKNOWN;
        }
        if (history != null) {
            return STATE;
        }
        if (known.size() >= 20) {
            return FULL;
        }
        if (!terms.get(term).ground() || known.contains(terms.get(term))) {
            return NO;
        }
        forget();
        known.add(terms.get(term));
        return known.size();
    }

    int session(int role, int a, int b, int c) {
        if (!hasRole(role)) {
            return UNKNOWN;
        }
        R r = roles.get(role);
        int[] given = {a, b, c};
        int parameters = 0;
        int fresh = 0;
        for (int as : r.as) {
            parameters += as == 0 ? 1 : 0;
            fresh += as == 1 ? 1 : 0;
        }
        for (int i = 0; i < parameters && i < 3; i++) {
            if (!has(given[i])) {
                return UNKNOWN;
            }
        }
        if (history != null) {
            return STATE;
        }
        if (sessions.size() >= 4 || terms.size() + fresh > 200) {
            return FULL;
        }
        if (parameters > 3) {
            return NO;
        }
        for (int i = 0; i < parameters; i++) {
            if (terms.get(given[i]).kind != 0) {
                return NO;
            }
        }
        forget();
        S s = new S();
        s.role = role;
        int used = 0;
        for (T v : r.variables) {
            if (r.as.get(v.number) == 0) {
                T agent = terms.get(given[used++]);
                s.stands.put(v.text, agent);
                s.honest &= agent.honest;
            } else if (r.as.get(v.number) == 1) {
                T atom = atomOf(v.sort);
                terms.add(atom);
                s.stands.put(v.text, atom);
            }
        }
        sessions.add(s);
        return sessions.size() - 1;
    }

    // ---- claims

    private boolean hasVariable(int r, int v) {
        return hasRole(r) && v >= 0 && v < roles.get(r).variables.size();
    }

    private int newClaim(boolean secret, int b, int a, int n) {
        if (claims.size() >= 6) {
            return FULL;
        }
        C c = new C();
        c.secret = secret;
        c.b = b;
        c.a = a;
        c.n = n;
        claims.add(c);
        return claims.size() - 1;
    }

    int secret(int role, int variable) {
        return hasVariable(role, variable) ? newClaim(true, role, role, variable) : UNKNOWN;
    }

    int agree(int b, int a, int n) {
        if (!hasRole(b) || !hasRole(a)) {
            return UNKNOWN;
        }
        return n < 0 || n > 6 ? OUTSIDE : newClaim(false, b, a, n);
    }

    int join(int claim, int ofB, int ofA) {
        if (claim < 0 || claim >= claims.size()) {
            return UNKNOWN;
        }
        C c = claims.get(claim);
        if (!c.secret && (!hasVariable(c.b, ofB) || !hasVariable(c.a, ofA))) {
            return UNKNOWN;
        }
        if (c.secret) {
            return STATE;
        }
        if (c.joined.size() >= 4) {
            return FULL;
        }
        c.joined.add(new int[] {ofB, ofA});
        return c.joined.size();
    }

    // ---- the intruder

    private boolean hasIn(List<T> row, T t) {
        for (T r : row) {
            if (r.same(t)) {
                return true;
            }
        }
        return false;
    }

    private boolean madeBy(List<T> row, T t) {
        if (hasIn(row, t)) {
            return true;
        }
        switch (t.kind) {
            case 0:
                return true;
            case 4:
            case 5:
                return madeBy(row, t.of.get(0)) && madeBy(row, t.of.get(1));
            case 6:
            case 9:
                return madeBy(row, t.of.get(0));
            case 7:
                return !t.of.get(0).honest;
            case 8:
                return madeBy(row, t.of.get(0)) && madeBy(row, new T(7, "", List.of(t.of.get(1))));
            default:
                return false;
        }
    }

    private T put(T t, Map<String, T> stands) {
        if (t.kind == 3) {
            return stands.get(t.text);
        }
        if (t.of.isEmpty()) {
            return t;
        }
        List<T> of = new ArrayList<>();
        for (T x : t.of) {
            of.add(put(x, stands));
        }
        return new T(t.kind, "", of);
    }

    private void come(List<Place> places, List<T> row, T t, int how, int from) {
        if (!hasIn(row, t)) {
            Place p = new Place();
            p.t = t;
            p.how = how;
            p.from = from;
            places.add(p);
            row.add(t);
        }
    }

    List<Place> rowOf(World w) {
        List<Place> places = new ArrayList<>();
        List<T> row = new ArrayList<>();
        for (T t : known) {
            come(places, row, t, 0, NONE);
        }
        int[] turn = new int[sessions.size()];
        for (int s : w.movers) {
            R r = w.roleOf(s);
            if (r.sends.get(turn[s])) {
                come(places, row, put(r.events.get(turn[s]), w.stands.get(s)), 1, NONE);
            }
            turn[s]++;
        }
        boolean more = true;
        while (more) {
            int before = row.size();
            for (int i = 0; i < row.size(); i++) {
                T t = row.get(i);
                if (t.kind == 4) {
                    come(places, row, t.of.get(0), 2, i);
                    come(places, row, t.of.get(1), 3, i);
                } else if (t.kind == 8) {
                    come(places, row, t.of.get(0), 6, i);
                } else if (t.kind == 5 && madeBy(row, t.of.get(1))) {
                    come(places, row, t.of.get(0), 4, i);
                } else if (t.kind == 6 && madeBy(row, new T(7, "", List.of(t.of.get(1))))) {
                    come(places, row, t.of.get(0), 5, i);
                }
            }
            more = row.size() > before;
        }
        return places;
    }

    private List<T> termsOf(List<Place> places) {
        List<T> row = new ArrayList<>();
        for (Place p : places) {
            row.add(p.t);
        }
        return row;
    }

    // ---- a run by hand

    private World now() {
        return history.get(history.size() - 1);
    }

    private List<Place> rowNow() {
        return rowOf(now());
    }

    int begin() {
        history = new ArrayList<>();
        history.add(new World());
        return sessions.size();
    }

    int end() {
        if (history == null) {
            return STATE;
        }
        int n = history.size() - 1;
        history = null;
        return n;
    }

    private boolean hasSession(int s) {
        return s >= 0 && s < sessions.size();
    }

    int send(int session) {
        if (!hasSession(session)) {
            return UNKNOWN;
        }
        if (history == null) {
            return STATE;
        }
        World w = new World(now());
        if (w.complete(session) || !w.roleOf(session).sends.get(w.done[session])) {
            return NO;
        }
        w.done[session]++;
        w.movers.add(session);
        history.add(w);
        return rowNow().size();
    }

    private boolean match(T pattern, T t, Map<String, T> stands) {
        if (pattern.kind == 3) {
            T old = stands.get(pattern.text);
            if (old != null) {
                return old.same(t);
            }
            if (pattern.sort != 3 && t.kind != pattern.sort) {
                return false;
            }
            stands.put(pattern.text, t);
            return true;
        }
        if (pattern.of.isEmpty() || t.of.isEmpty() || pattern.kind != t.kind) {
            return pattern.same(t);
        }
        for (int i = 0; i < pattern.of.size(); i++) {
            if (!match(pattern.of.get(i), t.of.get(i), stands)) {
                return false;
            }
        }
        return true;
    }

    int receive(int session, int term) {
        if (!hasSession(session) || !has(term)) {
            return UNKNOWN;
        }
        if (history == null) {
            return STATE;
        }
        World w = new World(now());
        if (w.complete(session) || w.roleOf(session).sends.get(w.done[session])) {
            return NO;
        }
        T t = terms.get(term);
        if (!t.ground() || !madeBy(termsOf(rowNow()), t)
                || !match(w.roleOf(session).events.get(w.done[session]), t, w.stands.get(session))) {
            return NO;
        }
        w.done[session]++;
        w.movers.add(session);
        history.add(w);
        return w.done[session];
    }

    int makes(int term) {
        if (!has(term)) {
            return UNKNOWN;
        }
        if (history == null) {
            return STATE;
        }
        T t = terms.get(term);
        return !t.ground() ? NO : madeBy(termsOf(rowNow()), t) ? 1 : 0;
    }

    private void missing(T t, LinkedHashMap<String, T> into) {
        for (T x : t.of) {
            missing(x, into);
        }
        if (number(t) < 0) {
            into.putIfAbsent(t.text, t);
        }
    }

    int row(int i, int what) {
        if (what < 0 || what > 4) {
            return OUTSIDE;
        }
        if (history == null) {
            return STATE;
        }
        List<Place> row = rowNow();
        if (i < 0 || i >= row.size()) {
            return NONE;
        }
        Place p = row.get(i);
        switch (what) {
            case 0: return p.t.kind;
            case 1: return p.t.size;
            case 2: return p.how;
            case 3: return p.from;
            default: break;
        }
        LinkedHashMap<String, T> wanted = new LinkedHashMap<>();
        missing(p.t, wanted);
        if (terms.size() + wanted.size() > 200) {
            return FULL;
        }
        if (p.t.size > 24) {
            return NO;
        }
        terms.addAll(wanted.values());
        return number(p.t);
    }

    int stands(int session, int variable) {
        if (!hasSession(session) || !hasVariable(sessions.get(session).role, variable)) {
            return UNKNOWN;
        }
        if (history == null) {
            return STATE;
        }
        T t = now().stands.get(session).get(now().roleOf(session).variables.get(variable).text);
        return t == null ? NONE : number(t);
    }

    int done(int session) {
        if (!hasSession(session)) {
            return UNKNOWN;
        }
        return history == null ? STATE : now().done[session];
    }

    private boolean partners(C c, World w, List<Integer> asking, int i, Set<Integer> taken) {
        if (i == asking.size()) {
            return true;
        }
        int s = asking.get(i);
        for (int p = 0; p < sessions.size(); p++) {
            if (p == s || taken.contains(p) || sessions.get(p).role != c.a || w.done[p] < c.n) {
                continue;
            }
            boolean all = true;
            for (int[] j : c.joined) {
                T x = w.stands.get(s).get(roles.get(c.b).variables.get(j[0]).text);
                T y = w.stands.get(p).get(roles.get(c.a).variables.get(j[1]).text);
                all &= x != null && y != null && x.same(y);
            }
            if (all) {
                taken.add(p);
                if (partners(c, w, asking, i + 1, taken)) {
                    return true;
                }
                taken.remove(p);
            }
        }
        return false;
    }

    private boolean isBroken(C c, World w) {
        List<Integer> asking = new ArrayList<>();
        for (int s = 0; s < sessions.size(); s++) {
            if (sessions.get(s).role != c.b || !sessions.get(s).honest) {
                continue;
            }
            if (c.secret) {
                T t = w.stands.get(s).get(roles.get(c.b).variables.get(c.n).text);
                if (t != null && madeBy(termsOf(rowOf(w)), t)) {
                    return true;
                }
            } else if (w.complete(s)) {
                asking.add(s);
            }
        }
        return !c.secret && !partners(c, w, asking, 0, new HashSet<>());
    }

    int broken(int claim) {
        if (claim < 0 || claim >= claims.size()) {
            return UNKNOWN;
        }
        return history == null ? STATE : isBroken(claims.get(claim), now()) ? 1 : 0;
    }

    int undo() {
        if (history == null) {
            return STATE;
        }
        if (history.size() == 1) {
            return NO;
        }
        history.remove(history.size() - 1);
        return history.size() - 1;
    }

    // ---- the search

    private void forget() {
        foundStates = 0;
        foundWays = 0;
        foundDone = 0;
        broke = null;
    }

    private int verdict;

    private void reach(World w, List<World> states, Set<String> seen) {
        if (verdict != 0 || seen.contains(w.text())) {
            return;
        }
        if (states.size() == 600) {
            verdict = OPEN;
            return;
        }
        seen.add(w.text());
        states.add(w);
        foundStates++;
        boolean all = true;
        for (int s = 0; s < sessions.size(); s++) {
            all &= w.complete(s);
        }
        foundDone += all ? 1 : 0;
        for (int c = 0; c < claims.size(); c++) {
            if (isBroken(claims.get(c), w)) {
                verdict = 1 + c;
                broke = w;
                return;
            }
        }
    }

    private void ways(World w, int s, T pattern, List<T> open, int i, Map<String, T> stands, List<T> row,
            List<World> states, Set<String> seen) {
        if (verdict != 0) {
            return;
        }
        if (i == open.size()) {
            if (madeBy(row, put(pattern, stands))) {
                World to = new World(w);
                to.stands.set(s, new HashMap<>(stands));
                to.done[s]++;
                to.movers.add(s);
                reach(to, states, seen);
            }
            return;
        }
        for (T t : options(open.get(i))) {
            stands.put(open.get(i).text, t);
            ways(w, s, pattern, open, i + 1, stands, row, states, seen);
        }
        stands.remove(open.get(i).text);
    }

    private List<T> options(T v) {
        List<T> all = new ArrayList<>();
        for (T t : terms) {
            if (t.ground() && (v.sort == 3 || t.kind == v.sort)) {
                all.add(t);
            }
        }
        return all;
    }

    int search() {
        forget();
        verdict = 0;
        List<World> states = new ArrayList<>();
        Set<String> seen = new HashSet<>();
        reach(new World(), states, seen);
        for (int i = 0; i < states.size() && verdict == 0; i++) {
            World w = states.get(i);
            List<T> row = termsOf(rowOf(w));
            for (int s = 0; s < sessions.size() && verdict == 0; s++) {
                if (w.complete(s)) {
                    continue;
                }
                T pattern = w.roleOf(s).events.get(w.done[s]);
                if (w.roleOf(s).sends.get(w.done[s])) {
                    World to = new World(w);
                    to.done[s]++;
                    to.movers.add(s);
                    reach(to, states, seen);
                    continue;
                }
                List<T> all = new ArrayList<>();
                pattern.variables(all);
                List<T> open = new ArrayList<>();
                double count = 1;
                for (T v : all) {
                    if (w.stands.get(s).get(v.text) == null) {
                        open.add(v);
                        count *= options(v).size();
                    }
                }
                if (foundWays + count > 20000) {
                    foundWays = 20001;
                    verdict = OPEN;
                    break;
                }
                foundWays += (int) count;
                ways(w, s, pattern, open, 0, new HashMap<>(w.stands.get(s)), row, states, seen);
            }
        }
        return verdict;
    }

    int found(int what) {
        switch (what) {
            case 0: return foundStates;
            case 1: return foundWays;
            case 2: return broke == null ? NONE : broke.movers.size();
            case 3: return foundDone;
            default: return OUTSIDE;
        }
    }

    int attack(int k) {
        return broke == null || k < 0 || k >= broke.movers.size() ? NONE : broke.movers.get(k);
    }

    int play(int n) {
        if (broke == null) {
            return STATE;
        }
        if (n < 0 || n > broke.movers.size()) {
            return OUTSIDE;
        }
        begin();
        for (int k = 0; k < n; k++) {
            int s = broke.movers.get(k);
            World w = new World(now());
            if (!w.roleOf(s).sends.get(w.done[s])) {
                List<T> in = new ArrayList<>();
                w.roleOf(s).events.get(w.done[s]).variables(in);
                for (T v : in) {
                    w.stands.get(s).put(v.text, broke.stands.get(s).get(v.text));
                }
            }
            w.done[s]++;
            w.movers.add(s);
            history.add(w);
        }
        return rowNow().size();
    }

    // ---- told

    int told(int what) {
        switch (what) {
            case 0: return terms.size();
            case 1: return roles.size();
            case 2: return sessions.size();
            case 3: return claims.size();
            case 4: return known.size();
            case 5: return history == null ? NONE : history.size() - 1;
            default: return OUTSIDE;
        }
    }

    int ofRole(int role, int what) {
        if (!hasRole(role)) {
            return UNKNOWN;
        }
        R r = roles.get(role);
        if (what == 0) {
            return r.variables.size();
        }
        if (what == 1) {
            return r.events.size();
        }
        if (what == 2) {
            return closed(role) ? 1 : 0;
        }
        for (int k = 0; k < 6; k++) {
            if (what == 10 + k) {
                return k < r.events.size() ? number(r.events.get(k)) : NONE;
            }
            if (what == 20 + k) {
                return k >= r.events.size() ? NONE : r.sends.get(k) ? 1 : 0;
            }
            if (what == 30 + k) {
                return k < r.variables.size() ? r.as.get(k) : NONE;
            }
        }
        return OUTSIDE;
    }

    int clear() {
        int n = terms.size();
        terms.clear();
        roles.clear();
        sessions.clear();
        claims.clear();
        known.clear();
        history = null;
        forget();
        return n;
    }
}
