import java.util.Arrays;

/**
 * A bench for protocols: roles, sessions of them, an intruder who owns the line,
 * runs by hand, and a search for the shortest run that breaks a claim.
 */
public final class SealProbe {
    public static final int UNKNOWN = -1, OUTSIDE = -2, STATE = -3, FULL = -4, NO = -5, NONE = -6, OPEN = -7;

    private static final int AGENT = 0, NONCE = 1, KEY = 2, VARIABLE = 3, PAIR = 4, SEAL = 5, LOCK = 6,
            PRIVATE = 7, SIGN = 8, HASH = 9;
    private static final int ANY_SORT = 3;
    private static final int PARAMETER = 0, FRESH = 1, RECEIVED = 2;
    private static final int KNOWN = 0, SENT = 1, FIRST_OF_PAIR = 2, SECOND_OF_PAIR = 3, OUT_OF_SEAL = 4,
            OUT_OF_LOCK = 5, OUT_OF_SIGN = 6;

    private static final int MOST_TERMS = 200, MOST_SIZE = 24;
    private static final int MOST_ROLES = 4, MOST_VARIABLES = 6, MOST_EVENTS = 6, MOST_PARAMETERS = 3;
    private static final int MOST_SESSIONS = 4, MOST_KNOWN = 20, MOST_CLAIMS = 6, MOST_JOINED = 4;
    private static final int MOST_STATES = 600, MOST_WAYS = 20000;

    /** A row of a run: for each SESSION its EVENTS done, then what its VARIABLES stand for. */
    private static final int SESSION_WIDTH = 1 + MOST_VARIABLES;
    private static final int STATE_WIDTH = MOST_SESSIONS * SESSION_WIDTH;
    private static final int MOST_STEPS = MOST_SESSIONS * MOST_EVENTS;

    /** Each EVENT that sends brings fewer GROUND TERMS that have no number than its SIZE. */
    private static final int MOST_UNNUMBERED = MOST_STEPS * MOST_SIZE;
    private static final int MOST_GROUND = MOST_TERMS + MOST_UNNUMBERED;
    private static final int INTRUDERS = 3;
    private static final int MOST_STORED = MOST_TERMS + INTRUDERS * MOST_UNNUMBERED;

    /** A TERM of SIZE 24 with VARIABLES that stand for TERMS of SIZE 24 is less deep than this. */
    private static final int DEEPEST = 2 * MOST_SIZE;
    private static final int SLOTS = 256, STATE_SLOTS = 1024;
    private static final int NOTHING = -1;

    private final Bench bench;
    private final Terms terms;
    private final Run run;
    private final Search search;

    public SealProbe() {
        terms = new Terms();
        bench = new Bench(terms);
        run = new Run(bench);
        search = new Search(bench);
    }

    // ---- 1 terms

    public int agent(boolean honest) {
        return terms.isFull() ? FULL : terms.newAtom(AGENT, honest);
    }

    public int atom(int sort) {
        if (sort != NONCE && sort != KEY) {
            return OUTSIDE;
        }
        return terms.isFull() ? FULL : terms.newAtom(sort, false);
    }

    public int term(int kind, int x, int y) {
        if (!terms.has(x) || kind != HASH && !terms.has(y)) {
            return UNKNOWN;
        }
        if (kind != PAIR && kind != SEAL && kind != HASH) {
            return OUTSIDE;
        }
        return compound(kind, x, kind == HASH ? NOTHING : y);
    }

    public int of(int kind, int x, int a) {
        if (!terms.has(a) || kind != PRIVATE && !terms.has(x)) {
            return UNKNOWN;
        }
        if (kind != LOCK && kind != PRIVATE && kind != SIGN || !terms.mayBeAgent(a)) {
            return OUTSIDE;
        }
        return kind == PRIVATE ? compound(PRIVATE, a, NOTHING) : compound(kind, x, a);
    }

    public int about(int term, int what) {
        if (!terms.has(term)) {
            return UNKNOWN;
        }
        if (what < 0 || what > 8) {
            return OUTSIDE;
        }
        int kind = terms.kind[term];
        switch (what) {
            case 0: return kind;
            case 1: return orNone(terms.first[term]);
            case 2: return orNone(terms.second[term]);
            case 3: return terms.size[term];
            case 4: return asNumber(terms.ground[term]);
            case 5: return kind == AGENT ? asNumber(terms.honest[term]) : NONE;
            case 6: return kind == VARIABLE ? terms.role[term] : NONE;
            case 7: return kind == VARIABLE ? terms.sort[term] : NONE;
            default: return kind == VARIABLE ? terms.place[term] : NONE;
        }
    }

    // ---- 2 roles and sessions

    public int role() {
        return bench.roleCount >= MOST_ROLES ? FULL : bench.newRole();
    }

    public int variable(int role, int as, int sort) {
        if (!bench.hasRole(role)) {
            return UNKNOWN;
        }
        if (!maySort(as, sort)) {
            return OUTSIDE;
        }
        Role its = bench.roles[role];
        if (its.closed) {
            return STATE;
        }
        if (its.variableCount >= MOST_VARIABLES || terms.isFull()) {
            return FULL;
        }
        int made = terms.newVariable(role, its.variableCount, sort);
        its.tell(as, sort);
        return made;
    }

    public int event(int role, boolean sends, int term) {
        if (!bench.hasRole(role) || !terms.has(term)) {
            return UNKNOWN;
        }
        Role its = bench.roles[role];
        if (its.closed) {
            return STATE;
        }
        if (its.eventCount >= MOST_EVENTS) {
            return FULL;
        }
        if (!bench.mayBeEvent(role, sends, term)) {
            return NO;
        }
        return bench.newEvent(its, sends, term);
    }

    public int know(int term) {
        if (!terms.has(term)) {
            return UNKNOWN;
        }
        if (run.on) {
            return STATE;
        }
        if (bench.knownCount >= MOST_KNOWN) {
            return FULL;
        }
        if (!terms.ground[term] || bench.isKnown(term)) {
            return NO;
        }
        search.forget();
        return bench.learn(term);
    }

    public int session(int role, int a, int b, int c) {
        if (!bench.hasRole(role)) {
            return UNKNOWN;
        }
        int parameters = bench.roles[role].countOf(PARAMETER);
        if (parameters > 0 && !terms.has(a) || parameters > 1 && !terms.has(b) || parameters > 2 && !terms.has(c)) {
            return UNKNOWN;
        }
        if (run.on) {
            return STATE;
        }
        if (bench.sessionCount >= MOST_SESSIONS || terms.count + bench.roles[role].countOf(FRESH) > MOST_TERMS) {
            return FULL;
        }
        boolean agents = (parameters < 1 || terms.isAgent(a)) && (parameters < 2 || terms.isAgent(b))
                && (parameters < 3 || terms.isAgent(c));
        if (parameters > MOST_PARAMETERS || !agents) {
            return NO;
        }
        search.forget();
        return bench.newSession(role, a, b, c);
    }

    // ---- 3 claims

    public int secret(int role, int variable) {
        if (!bench.hasVariable(role, variable)) {
            return UNKNOWN;
        }
        return bench.claimCount >= MOST_CLAIMS ? FULL : bench.newClaim(true, role, role, variable);
    }

    public int agree(int b, int a, int n) {
        if (!bench.hasRole(b) || !bench.hasRole(a)) {
            return UNKNOWN;
        }
        if (n < 0 || n > MOST_EVENTS) {
            return OUTSIDE;
        }
        return bench.claimCount >= MOST_CLAIMS ? FULL : bench.newClaim(false, b, a, n);
    }

    public int join(int claim, int ofB, int ofA) {
        if (!bench.hasClaim(claim)) {
            return UNKNOWN;
        }
        Claim its = bench.claims[claim];
        if (its.secret) {
            return STATE;
        }
        if (!bench.hasVariable(its.roleB, ofB) || !bench.hasVariable(its.roleA, ofA)) {
            return UNKNOWN;
        }
        return its.joined >= MOST_JOINED ? FULL : its.tie(ofB, ofA);
    }

    // ---- 4 a run by hand

    public int begin() {
        run.start();
        return bench.sessionCount;
    }

    public int end() {
        if (!run.on) {
            return STATE;
        }
        run.on = false;
        return run.count;
    }

    public int send(int session) {
        if (!bench.hasSession(session)) {
            return UNKNOWN;
        }
        if (!run.on) {
            return STATE;
        }
        Event due = bench.due(run.at, 0, session);
        if (due == null || !due.sends) {
            return NO;
        }
        run.step(session);
        return run.intruder().length;
    }

    public int receive(int session, int term) {
        if (!bench.hasSession(session) || !terms.has(term)) {
            return UNKNOWN;
        }
        if (!run.on) {
            return STATE;
        }
        Event due = bench.due(run.at, 0, session);
        if (due == null || due.sends || !terms.ground[term] || !run.intruder().canMake(term, 0)) {
            return NO;
        }
        if (!run.accepts(session, due, term)) {
            return NO;
        }
        run.step(session);
        return bench.doneBy(run.at, 0, session);
    }

    public int makes(int term) {
        if (!terms.has(term)) {
            return UNKNOWN;
        }
        if (!run.on) {
            return STATE;
        }
        return terms.ground[term] ? asNumber(run.intruder().canMake(term, 0)) : NO;
    }

    public int row(int i, int what) {
        if (what < 0 || what > 4) {
            return OUTSIDE;
        }
        if (!run.on) {
            return STATE;
        }
        Knowledge intruder = run.intruder();
        if (i < 0 || i >= intruder.length) {
            return NONE;
        }
        int ground = intruder.row[i];
        switch (what) {
            case 0: return terms.kind[ground];
            case 1: return terms.size[ground];
            case 2: return intruder.how[i];
            case 3: return orNone(intruder.from[i]);
            default: return numbered(intruder, ground);
        }
    }

    public int stands(int session, int variable) {
        if (!bench.hasSession(session) || !bench.hasVariable(bench.sessionRole[session], variable)) {
            return UNKNOWN;
        }
        if (!run.on) {
            return STATE;
        }
        return orNone(bench.valueOf(run.at, 0, session, variable));
    }

    public int done(int session) {
        if (!bench.hasSession(session)) {
            return UNKNOWN;
        }
        return run.on ? bench.doneBy(run.at, 0, session) : STATE;
    }

    public int broken(int claim) {
        if (!bench.hasClaim(claim)) {
            return UNKNOWN;
        }
        return run.on ? asNumber(bench.breaks(claim, run.at, 0, run.intruder())) : STATE;
    }

    public int undo() {
        if (!run.on) {
            return STATE;
        }
        return run.count == 0 ? NO : run.takeBack();
    }

    // ---- 5 the search

    public int search() {
        search.start();
        for (int state = 0; state < MOST_STATES && search.goesOn(state); state++) {
            search.goThrough(state);
        }
        return search.answer;
    }

    public int found(int what) {
        switch (what) {
            case 0: return search.states.count;
            case 1: return search.ways;
            case 2: return search.hasAttack() ? search.length : NONE;
            case 3: return search.finished;
            default: return OUTSIDE;
        }
    }

    public int attack(int k) {
        return search.hasAttack() && k >= 0 && k < search.length ? search.path[k] : NONE;
    }

    public int play(int n) {
        if (!search.hasAttack()) {
            return STATE;
        }
        if (n < 0 || n > search.length) {
            return OUTSIDE;
        }
        run.start();
        for (int k = 0; k < n; k++) {
            run.follow(search.path[k], search.states.at, search.attackBase());
        }
        return run.intruder().length;
    }

    // ---- 6 told

    public int told(int what) {
        switch (what) {
            case 0: return terms.count;
            case 1: return bench.roleCount;
            case 2: return bench.sessionCount;
            case 3: return bench.claimCount;
            case 4: return bench.knownCount;
            case 5: return run.on ? run.count : NONE;
            default: return OUTSIDE;
        }
    }

    public int ofRole(int role, int what) {
        if (!bench.hasRole(role)) {
            return UNKNOWN;
        }
        Role its = bench.roles[role];
        if (what >= 0 && what <= 2) {
            return what == 0 ? its.variableCount : what == 1 ? its.eventCount : asNumber(its.closed);
        }
        int k = Math.floorMod(what, 10);
        if (what < 10 || what > 35 || k > 5) {
            return OUTSIDE;
        }
        if (what >= 30) {
            return k < its.variableCount ? its.as[k] : NONE;
        }
        if (k >= its.eventCount) {
            return NONE;
        }
        return what < 20 ? its.events[k].term : asNumber(its.events[k].sends);
    }

    public int clear() {
        int had = terms.count;
        run.on = false;
        search.forget();
        bench.empty();
        terms.empty();
        return had;
    }

    // ---- what several calls share

    private static int asNumber(boolean so) {
        return so ? 1 : 0;
    }

    private static int orNone(int number) {
        return number == NOTHING ? NONE : number;
    }

    private static boolean maySort(int as, int sort) {
        switch (as) {
            case PARAMETER: return sort == AGENT;
            case FRESH: return sort == NONCE || sort == KEY;
            case RECEIVED: return sort >= AGENT && sort <= ANY_SORT;
            default: return false;
        }
    }

    private int compound(int kind, int x, int y) {
        if (1 + terms.sizeOf(x) + terms.sizeOf(y) > MOST_SIZE) {
            return OUTSIDE;
        }
        int old = terms.find(kind, x, y);
        if (old != NOTHING) {
            return old;
        }
        return terms.isFull() ? FULL : terms.newCompound(kind, x, y);
    }

    private int numbered(Knowledge intruder, int ground) {
        if (terms.count + intruder.missingFor(ground) > MOST_TERMS) {
            return FULL;
        }
        return terms.size[ground] > MOST_SIZE ? NO : intruder.giveNumber(ground, 0);
    }

    /**
     * The TERMS by their numbers, each behind what it is of. The rows go on behind MOST_TERMS with
     * what an intruder has that has no number, so that both are read in one way.
     */
    private static final class Terms {
        final int[] kind = new int[MOST_STORED];
        final int[] first = new int[MOST_STORED];
        final int[] second = new int[MOST_STORED];
        final int[] size = new int[MOST_STORED];
        final int[] next = new int[MOST_STORED];
        final int[] head = new int[SLOTS];
        final boolean[] ground = new boolean[MOST_TERMS];
        final boolean[] honest = new boolean[MOST_TERMS];
        final int[] role = new int[MOST_TERMS];
        final int[] sort = new int[MOST_TERMS];
        final int[] place = new int[MOST_TERMS];
        int count;

        Terms() {
            Arrays.fill(head, NOTHING);
        }

        void empty() {
            count = 0;
            Arrays.fill(head, NOTHING);
        }

        static int slotOf(int kind, int x, int y) {
            return ((x * 37 + y) * 11 + kind) & (SLOTS - 1);
        }

        boolean has(int t) {
            return t >= 0 && t < count;
        }

        boolean isFull() {
            return count >= MOST_TERMS;
        }

        boolean isAgent(int t) {
            return has(t) && kind[t] == AGENT;
        }

        boolean isHonest(int t) {
            return isAgent(t) && honest[t];
        }

        boolean mayBeAgent(int t) {
            return isAgent(t) || has(t) && kind[t] == VARIABLE && sort[t] == AGENT;
        }

        /** Whether VARIABLES are in a TERM, but that it is none itself. */
        boolean isOpen(int t) {
            return has(t) && !ground[t] && kind[t] != VARIABLE;
        }

        int sizeOf(int t) {
            return has(t) ? size[t] : 0;
        }

        int find(int ofKind, int x, int y) {
            return findFrom(head[slotOf(ofKind, x, y)], ofKind, x, y);
        }

        int findFrom(int start, int ofKind, int x, int y) {
            int t = start;
            for (int n = 0; n < MOST_STORED && t >= 0 && t < MOST_STORED; n++) {
                if (kind[t] == ofKind && first[t] == x && second[t] == y) {
                    return t;
                }
                t = next[t];
            }
            return NOTHING;
        }

        int newAtom(int ofKind, boolean isHonest) {
            int t = put(ofKind, NOTHING, NOTHING);
            if (t != NOTHING) {
                honest[t] = isHonest;
            }
            return t;
        }

        int newVariable(int ofRole, int number, int ofSort) {
            int t = put(VARIABLE, NOTHING, NOTHING);
            if (t != NOTHING) {
                ground[t] = false;
                role[t] = ofRole;
                place[t] = number;
                sort[t] = ofSort;
            }
            return t;
        }

        int newCompound(int ofKind, int x, int y) {
            int t = put(ofKind, x, y);
            if (t != NOTHING) {
                int slot = slotOf(ofKind, x, y);
                next[t] = head[slot];
                head[slot] = t;
            }
            return t;
        }

        private int put(int ofKind, int x, int y) {
            if (isFull()) {
                return NOTHING;
            }
            int t = count;
            kind[t] = ofKind;
            first[t] = x;
            second[t] = y;
            size[t] = 1 + sizeOf(x) + sizeOf(y);
            ground[t] = (!has(x) || ground[x]) && (!has(y) || ground[y]);
            honest[t] = false;
            count = t + 1;
            return t;
        }
    }

    /** An EVENT of a ROLE, and for one that receives, how ways to receive it are weighed. */
    private static final class Event {
        boolean sends;
        int term;
        /** The VARIABLES that stand for nothing until here, from left to right. */
        final int[] binds = new int[MOST_VARIABLES];
        final int[] bindSort = new int[MOST_VARIABLES];
        int bindCount;
        /** What the TERM is put together from, ordered by the last of binds in it, so that a way
            that differs from the one before in late VARIABLES alone is weighed from there on. */
        final int[] parts = new int[MOST_SIZE];
        final int[] partsFrom = new int[MOST_VARIABLES + 1];
        int partCount;

        /** level is a row of one number for each TERM, for use here alone. */
        void plan(Terms terms, int[] level) {
            markParts(terms, level);
            for (int t = 0; t <= term && t < terms.count; t++) {
                if (level[t] != NOTHING) {
                    level[t] = levelOf(terms, level, t);
                }
            }
            partCount = 0;
            for (int at = 0; at <= bindCount; at++) {
                partsFrom[at] = partCount;
                for (int t = 0; t <= term && t < terms.count && partCount < MOST_SIZE; t++) {
                    if (level[t] == at) {
                        parts[partCount] = t;
                        partCount++;
                    }
                }
            }
        }

        private void markParts(Terms terms, int[] level) {
            Arrays.fill(level, NOTHING);
            for (int t = Math.min(term, terms.count - 1); t >= 0; t--) {
                if (t == term) {
                    level[t] = 0;
                }
                if (level[t] == NOTHING || !terms.isOpen(t)) {
                    continue;
                }
                level[terms.first[t]] = 0;
                if (terms.has(terms.second[t])) {
                    level[terms.second[t]] = 0;
                }
            }
        }

        private int levelOf(Terms terms, int[] level, int t) {
            if (terms.isOpen(t)) {
                int y = terms.second[t];
                return Math.max(level[terms.first[t]], terms.has(y) ? level[y] : 0);
            }
            for (int j = 0; j < bindCount; j++) {
                if (terms.kind[t] == VARIABLE && binds[j] == terms.place[t]) {
                    return j + 1;
                }
            }
            return 0;
        }
    }

    private static final class Role {
        final int[] as = new int[MOST_VARIABLES];
        final int[] sort = new int[MOST_VARIABLES];
        final boolean[] received = new boolean[MOST_VARIABLES];
        int variableCount;
        final Event[] events = new Event[MOST_EVENTS];
        int eventCount;
        boolean closed;

        Role() {
            for (int k = 0; k < MOST_EVENTS; k++) {
                events[k] = new Event();
            }
        }

        void empty() {
            variableCount = 0;
            eventCount = 0;
            closed = false;
        }

        void tell(int toldAs, int ofSort) {
            if (variableCount < MOST_VARIABLES) {
                as[variableCount] = toldAs;
                sort[variableCount] = ofSort;
                received[variableCount] = false;
                variableCount++;
            }
        }

        boolean has(int variable) {
            return variable >= 0 && variable < variableCount;
        }

        boolean waitsFor(int variable) {
            return has(variable) && as[variable] == RECEIVED && !received[variable];
        }

        int countOf(int toldAs) {
            int found = 0;
            for (int v = 0; v < variableCount; v++) {
                if (as[v] == toldAs) {
                    found++;
                }
            }
            return found;
        }
    }

    private static final class Claim {
        boolean secret;
        int roleB;
        int roleA;
        /** The VARIABLE of a SECRET; how many EVENTS an AGREE asks for. */
        int number;
        final int[] ofB = new int[MOST_JOINED];
        final int[] ofA = new int[MOST_JOINED];
        int joined;

        int tie(int variableOfB, int variableOfA) {
            if (joined < MOST_JOINED) {
                ofB[joined] = variableOfB;
                ofA[joined] = variableOfA;
                joined++;
            }
            return joined;
        }
    }

    /**
     * What was told: ROLES, SESSIONS, CLAIMS, what is known at first. Where a SESSION stands is
     * no part of it: that is in rows "at", of STATE_WIDTH from a base on, of a run or a search.
     */
    private static final class Bench {
        final Terms terms;
        final Role[] roles = new Role[MOST_ROLES];
        int roleCount;
        final int[] sessionRole = new int[MOST_SESSIONS];
        final boolean[] sessionHonest = new boolean[MOST_SESSIONS];
        final int[] opening = new int[STATE_WIDTH];
        int sessionCount;
        final Claim[] claims = new Claim[MOST_CLAIMS];
        int claimCount;
        final int[] known = new int[MOST_KNOWN];
        int knownCount;
        private final int[] stack = new int[2 * MOST_SIZE];
        private final int[] variables = new int[MOST_SIZE];
        private final int[] level = new int[MOST_TERMS];

        Bench(Terms terms) {
            this.terms = terms;
            for (int r = 0; r < MOST_ROLES; r++) {
                roles[r] = new Role();
            }
            for (int c = 0; c < MOST_CLAIMS; c++) {
                claims[c] = new Claim();
            }
        }

        void empty() {
            roleCount = 0;
            sessionCount = 0;
            claimCount = 0;
            knownCount = 0;
        }

        boolean hasRole(int r) {
            return r >= 0 && r < roleCount;
        }

        boolean hasSession(int s) {
            return s >= 0 && s < sessionCount;
        }

        boolean hasClaim(int c) {
            return c >= 0 && c < claimCount;
        }

        boolean hasVariable(int r, int v) {
            return hasRole(r) && roles[r].has(v);
        }

        int newRole() {
            if (roleCount >= MOST_ROLES) {
                return FULL;
            }
            roles[roleCount].empty();
            roleCount++;
            return roleCount - 1;
        }

        boolean mayBeEvent(int role, boolean sends, int term) {
            int count = listVariables(term);
            for (int i = 0; i < count; i++) {
                int variable = variables[i];
                if (terms.role[variable] != role) {
                    return false;
                }
                if (sends && roles[role].waitsFor(terms.place[variable])) {
                    return false;
                }
            }
            return true;
        }

        int newEvent(Role role, boolean sends, int term) {
            if (role.eventCount >= MOST_EVENTS) {
                return FULL;
            }
            Event event = role.events[role.eventCount];
            event.sends = sends;
            event.term = term;
            event.bindCount = 0;
            event.partCount = 0;
            if (!sends) {
                bindIn(role, event);
                event.plan(terms, level);
            }
            role.eventCount++;
            return role.eventCount;
        }

        private void bindIn(Role role, Event event) {
            int count = listVariables(event.term);
            for (int i = 0; i < count; i++) {
                int place = terms.place[variables[i]];
                if (role.waitsFor(place) && event.bindCount < MOST_VARIABLES) {
                    role.received[place] = true;
                    event.binds[event.bindCount] = place;
                    event.bindSort[event.bindCount] = role.sort[place];
                    event.bindCount++;
                }
            }
        }

        /** The VARIABLES in a TERM, each as often as it is there, from left to right. */
        private int listVariables(int term) {
            int listed = 0;
            int waiting = 1;
            stack[0] = term;
            for (int n = 0; n < MOST_SIZE && waiting > 0; n++) {
                waiting--;
                int t = stack[waiting];
                if (terms.kind[t] == VARIABLE) {
                    variables[listed] = t;
                    listed++;
                }
                if (terms.has(terms.second[t])) {
                    stack[waiting] = terms.second[t];
                    waiting++;
                }
                if (terms.has(terms.first[t])) {
                    stack[waiting] = terms.first[t];
                    waiting++;
                }
            }
            return listed;
        }

        boolean isKnown(int term) {
            for (int i = 0; i < knownCount; i++) {
                if (known[i] == term) {
                    return true;
                }
            }
            return false;
        }

        int learn(int term) {
            if (knownCount < MOST_KNOWN) {
                known[knownCount] = term;
                knownCount++;
            }
            return knownCount;
        }

        int newSession(int role, int a, int b, int c) {
            if (sessionCount >= MOST_SESSIONS || !hasRole(role)) {
                return FULL;
            }
            Role its = roles[role];
            int base = sessionCount * SESSION_WIDTH;
            int parameters = 0;
            boolean honest = true;
            opening[base] = 0;
            for (int v = 0; v < MOST_VARIABLES; v++) {
                int value = NOTHING;
                if (its.has(v) && its.as[v] == PARAMETER) {
                    value = parameters == 0 ? a : parameters == 1 ? b : c;
                    honest = honest && terms.isHonest(value);
                    parameters++;
                } else if (its.has(v) && its.as[v] == FRESH) {
                    value = terms.newAtom(its.sort[v], false);
                }
                opening[base + 1 + v] = value;
            }
            its.closed = true;
            sessionRole[sessionCount] = role;
            sessionHonest[sessionCount] = honest;
            sessionCount++;
            return sessionCount - 1;
        }

        int newClaim(boolean secret, int b, int a, int number) {
            if (claimCount >= MOST_CLAIMS) {
                return FULL;
            }
            Claim claim = claims[claimCount];
            claim.secret = secret;
            claim.roleB = b;
            claim.roleA = a;
            claim.number = number;
            claim.joined = 0;
            claimCount++;
            return claimCount - 1;
        }

        int doneBy(int[] at, int base, int session) {
            return at[base + session * SESSION_WIDTH];
        }

        int valueOf(int[] at, int base, int session, int variable) {
            return at[base + session * SESSION_WIDTH + 1 + variable];
        }

        /** The next EVENT of a SESSION, or null. */
        Event due(int[] at, int base, int session) {
            Role role = roles[sessionRole[session]];
            int k = doneBy(at, base, session);
            return k >= 0 && k < role.eventCount ? role.events[k] : null;
        }

        boolean hasDoneAll(int[] at, int base, int session) {
            return doneBy(at, base, session) >= roles[sessionRole[session]].eventCount;
        }

        boolean allHaveDoneAll(int[] at, int base) {
            for (int s = 0; s < sessionCount; s++) {
                if (!hasDoneAll(at, base, s)) {
                    return false;
                }
            }
            return true;
        }

        void beginKnowledge(Knowledge intruder) {
            intruder.start();
            for (int i = 0; i < knownCount; i++) {
                intruder.add(known[i], KNOWN, NOTHING);
            }
        }

        /** What the intruder has in a STATE; what was sent is taken by SESSIONS. */
        void fillKnowledge(Knowledge intruder, int[] at, int base) {
            beginKnowledge(intruder);
            for (int s = 0; s < sessionCount; s++) {
                Role role = roles[sessionRole[s]];
                int done = doneBy(at, base, s);
                for (int k = 0; k < done && k < role.eventCount; k++) {
                    if (role.events[k].sends) {
                        int sent = intruder.groundOf(role.events[k].term, at, base + s * SESSION_WIDTH + 1, 0);
                        intruder.add(sent, SENT, NOTHING);
                    }
                }
            }
            intruder.takeApart();
        }

        boolean hasSecrets() {
            for (int c = 0; c < claimCount; c++) {
                if (claims[c].secret) {
                    return true;
                }
            }
            return false;
        }

        boolean breaks(int claim, int[] at, int base, Knowledge intruder) {
            Claim its = claims[claim];
            return its.secret ? leaks(its, at, base, intruder) : !canPartner(its, at, base, 0, 0);
        }

        private boolean leaks(Claim claim, int[] at, int base, Knowledge intruder) {
            for (int s = 0; s < sessionCount; s++) {
                if (sessionRole[s] == claim.roleB && sessionHonest[s]
                        && intruder.canMake(valueOf(at, base, s, claim.number), 0)) {
                    return true;
                }
            }
            return false;
        }

        /** Whether the SESSIONS from s on that ask for a partner can have one that is not taken (by bits). */
        private boolean canPartner(Claim claim, int[] at, int base, int s, int taken) {
            if (s >= sessionCount) {
                return true;
            }
            if (sessionRole[s] != claim.roleB || !sessionHonest[s] || !hasDoneAll(at, base, s)) {
                return canPartner(claim, at, base, s + 1, taken);
            }
            for (int p = 0; p < sessionCount; p++) {
                boolean free = p != s && (taken & (1 << p)) == 0;
                if (free && isPartner(claim, at, base, s, p) && canPartner(claim, at, base, s + 1, taken | (1 << p))) {
                    return true;
                }
            }
            return false;
        }

        private boolean isPartner(Claim claim, int[] at, int base, int s, int partner) {
            if (sessionRole[partner] != claim.roleA || doneBy(at, base, partner) < claim.number) {
                return false;
            }
            for (int j = 0; j < claim.joined; j++) {
                int value = valueOf(at, base, s, claim.ofB[j]);
                if (value == NOTHING || value != valueOf(at, base, partner, claim.ofA[j])) {
                    return false;
                }
            }
            return true;
        }
    }

    /**
     * THE ROW of an intruder. What was sent and has no number is kept in a stretch of its own of
     * the rows of TERMS, so that neither a run nor the search makes TERMS.
     */
    private static final class Knowledge {
        final Terms terms;
        private final int stretch;
        private final int[] head = new int[SLOTS];
        private int unnumbered;
        final int[] row = new int[MOST_GROUND];
        final int[] how = new int[MOST_GROUND];
        final int[] from = new int[MOST_GROUND];
        int length;
        /** Marks hold the count of starts, so that a start has nothing to wipe; minus it says no. */
        private final int[] inRow = new int[MOST_STORED];
        private final int[] makeable = new int[MOST_STORED];
        private final int[] privateOf = new int[MOST_TERMS];
        private final int[] wanted = new int[MOST_UNNUMBERED];
        private int starts;
        private boolean whole;

        Knowledge(Terms terms, int number) {
            this.terms = terms;
            stretch = MOST_TERMS + number * MOST_UNNUMBERED;
            Arrays.fill(head, NOTHING);
        }

        void start() {
            for (int g = stretch; g < stretch + unnumbered; g++) {
                head[Terms.slotOf(terms.kind[g], terms.first[g], terms.second[g])] = NOTHING;
            }
            unnumbered = 0;
            length = 0;
            starts++;
            whole = false;
        }

        private boolean isUnnumbered(int ground) {
            return ground >= stretch && ground < stretch + unnumbered;
        }

        private boolean has(int ground) {
            return ground >= 0 && ground < terms.count || ground >= stretch && ground < stretch + unnumbered;
        }

        int find(int kind, int x, int y) {
            int slot = Terms.slotOf(kind, x, y);
            int old = terms.findFrom(terms.head[slot], kind, x, y);
            return old != NOTHING ? old : terms.findFrom(head[slot], kind, x, y);
        }

        private int findOrPut(int kind, int x, int y) {
            int old = find(kind, x, y);
            if (old != NOTHING || unnumbered >= MOST_UNNUMBERED || !has(x)) {
                return old;
            }
            int g = stretch + unnumbered;
            int slot = Terms.slotOf(kind, x, y);
            terms.kind[g] = kind;
            terms.first[g] = x;
            terms.second[g] = y;
            terms.size[g] = 1 + terms.size[x] + (has(y) ? terms.size[y] : 0);
            terms.next[g] = head[slot];
            head[slot] = g;
            unnumbered++;
            return g;
        }

        /** A TERM whose VARIABLES stand for what is in the row "at" from the place values on. */
        private int groundOf(int term, int[] at, int values, int depth) {
            if (!terms.has(term) || depth > DEEPEST) {
                return NOTHING;
            }
            if (terms.ground[term]) {
                return term;
            }
            if (terms.kind[term] == VARIABLE) {
                return at[values + terms.place[term]];
            }
            int x = groundOf(terms.first[term], at, values, depth + 1);
            int y = groundOf(terms.second[term], at, values, depth + 1);
            return findOrPut(terms.kind[term], x, y);
        }

        boolean add(int ground, int came, int place) {
            if (!has(ground) || inRow[ground] == starts || length >= MOST_GROUND) {
                return false;
            }
            inRow[ground] = starts;
            makeable[ground] = starts;
            if (terms.kind[ground] == PRIVATE && terms.has(terms.first[ground])) {
                privateOf[terms.first[ground]] = starts;
            }
            row[length] = ground;
            how[length] = came;
            from[length] = place;
            length++;
            return true;
        }

        void takeApart() {
            boolean came = true;
            for (int pass = 0; pass <= MOST_GROUND && came; pass++) {
                came = false;
                // the row grows as it is gone through, but never beyond all that there can be
                for (int i = 0; i < length && i < MOST_GROUND; i++) {
                    came = takeApartAt(i) || came;
                }
            }
            whole = true;
        }

        private boolean takeApartAt(int i) {
            int ground = row[i];
            int x = terms.first[ground];
            int y = terms.second[ground];
            boolean came = false;
            switch (terms.kind[ground]) {
                case PAIR:
                    came = add(x, FIRST_OF_PAIR, i);
                    return add(y, SECOND_OF_PAIR, i) || came;
                case SEAL:
                    return canMake(y, 0) && add(x, OUT_OF_SEAL, i);
                case LOCK:
                    return hasPrivateOf(y) && add(x, OUT_OF_LOCK, i);
                case SIGN:
                    return add(x, OUT_OF_SIGN, i);
                default:
                    return came;
            }
        }

        boolean hasPrivateOf(int agent) {
            return agent >= 0 && agent < terms.count && (!terms.honest[agent] || privateOf[agent] == starts);
        }

        private boolean canMake(int ground, int depth) {
            if (!has(ground) || depth > DEEPEST || makeable[ground] == -starts) {
                return false;
            }
            if (makeable[ground] == starts) {
                return true;
            }
            int x = terms.first[ground];
            int y = terms.second[ground];
            boolean can = false;
            switch (terms.kind[ground]) {
                case AGENT:
                    can = true;
                    break;
                case PAIR:
                case SEAL:
                    can = canMake(x, depth + 1) && canMake(y, depth + 1);
                    break;
                case LOCK:
                case HASH:
                    can = canMake(x, depth + 1);
                    break;
                case PRIVATE:
                    can = hasPrivateOf(x);
                    break;
                case SIGN:
                    can = hasPrivateOf(y) && canMake(x, depth + 1);
                    break;
                default:
                    break;
            }
            // what can't be made may still come to be, until all is taken apart
            makeable[ground] = can ? starts : whole ? -starts : makeable[ground];
            return can;
        }

        /** How many TERMS have to be made for this one to have a number. */
        int missingFor(int ground) {
            Arrays.fill(wanted, 0);
            want(ground);
            int missing = 0;
            for (int u = unnumbered - 1; u >= 0; u--) {
                if (wanted[u] == 1) {
                    missing++;
                    want(terms.first[stretch + u]);
                    want(terms.second[stretch + u]);
                }
            }
            return missing;
        }

        private void want(int ground) {
            if (isUnnumbered(ground)) {
                wanted[ground - stretch] = 1;
            }
        }

        private int giveNumber(int ground, int depth) {
            if (!isUnnumbered(ground) || depth > DEEPEST) {
                return ground;
            }
            int x = giveNumber(terms.first[ground], depth + 1);
            int y = giveNumber(terms.second[ground], depth + 1);
            int old = terms.find(terms.kind[ground], x, y);
            return old != NOTHING ? old : terms.newCompound(terms.kind[ground], x, y);
        }
    }

    /** A RUN by hand. */
    private static final class Run {
        final Bench bench;
        final Terms terms;
        private final Knowledge knowledge;
        final int[] at = new int[STATE_WIDTH];
        private final int[] movers = new int[MOST_STEPS];
        private final int[] turns = new int[MOST_SESSIONS];
        private final int[] trial = new int[MOST_VARIABLES];
        int count;
        boolean on;
        /** TERMS there were when the knowledge was gathered: new ones may be what had no number. */
        private int gatheredFor;

        Run(Bench bench) {
            this.bench = bench;
            terms = bench.terms;
            knowledge = new Knowledge(bench.terms, 0);
        }

        void start() {
            on = true;
            count = 0;
            gatheredFor = NOTHING;
            System.arraycopy(bench.opening, 0, at, 0, STATE_WIDTH);
        }

        Knowledge intruder() {
            if (gatheredFor != terms.count) {
                gather();
                gatheredFor = terms.count;
            }
            return knowledge;
        }

        private void gather() {
            bench.beginKnowledge(knowledge);
            Arrays.fill(turns, 0);
            for (int i = 0; i < count; i++) {
                int session = movers[i];
                Event event = eventOf(session, turns[session]);
                turns[session]++;
                if (event != null && event.sends) {
                    knowledge.add(knowledge.groundOf(event.term, at, session * SESSION_WIDTH + 1, 0), SENT, NOTHING);
                }
            }
            knowledge.takeApart();
        }

        private Event eventOf(int session, int k) {
            Role role = bench.roles[bench.sessionRole[session]];
            return k >= 0 && k < role.eventCount ? role.events[k] : null;
        }

        void step(int session) {
            if (count < MOST_STEPS) {
                movers[count] = session;
                count++;
                at[session * SESSION_WIDTH]++;
                gatheredFor = NOTHING;
            }
        }

        int takeBack() {
            if (count > 0) {
                count--;
                int session = movers[count];
                int base = session * SESSION_WIDTH;
                at[base]--;
                Event event = eventOf(session, at[base]);
                int binds = event == null ? 0 : event.bindCount;
                for (int j = 0; j < binds; j++) {
                    at[base + 1 + event.binds[j]] = NOTHING;
                }
                gatheredFor = NOTHING;
            }
            return count;
        }

        /** Does the next EVENT of a SESSION, whose VARIABLES come to stand as in a STATE that was found. */
        void follow(int session, int[] states, int base) {
            Event event = bench.due(at, 0, session);
            int binds = event == null ? 0 : event.bindCount;
            for (int j = 0; j < binds; j++) {
                int place = session * SESSION_WIDTH + 1 + event.binds[j];
                at[place] = states[base + place];
            }
            step(session);
        }

        /** Whether a GROUND TERM is that of the EVENT; if so, its VARIABLES stand for what fits. */
        boolean accepts(int session, Event event, int term) {
            int values = session * SESSION_WIDTH + 1;
            System.arraycopy(at, values, trial, 0, MOST_VARIABLES);
            if (!matches(event.term, term, 0)) {
                return false;
            }
            System.arraycopy(trial, 0, at, values, MOST_VARIABLES);
            return true;
        }

        private boolean matches(int pattern, int term, int depth) {
            if (!terms.has(pattern) || !terms.has(term) || depth > DEEPEST) {
                return false;
            }
            if (terms.ground[pattern]) {
                return pattern == term;
            }
            if (terms.kind[pattern] == VARIABLE) {
                return mayStand(pattern, term);
            }
            if (terms.kind[pattern] != terms.kind[term]) {
                return false;
            }
            return matches(terms.first[pattern], terms.first[term], depth + 1)
                    && (terms.second[pattern] == NOTHING
                    || matches(terms.second[pattern], terms.second[term], depth + 1));
        }

        private boolean mayStand(int variable, int term) {
            int place = terms.place[variable];
            int sort = terms.sort[variable];
            if (trial[place] != NOTHING) {
                return trial[place] == term;
            }
            if (sort != ANY_SORT && terms.kind[term] != sort) {
                return false;
            }
            trial[place] = term;
            return true;
        }
    }

    /** The STATES of a search, by numbers, found again by a hash of their rows. */
    private static final class States {
        final int[] at = new int[MOST_STATES * STATE_WIDTH];
        final int[] parent = new int[MOST_STATES];
        final int[] mover = new int[MOST_STATES];
        private final int[] next = new int[MOST_STATES];
        private final int[] head = new int[STATE_SLOTS];
        int count;

        void empty() {
            count = 0;
            Arrays.fill(head, NOTHING);
        }

        private static int slotOf(int[] draft, int width) {
            int mixed = 17;
            for (int i = 0; i < width && i < STATE_WIDTH; i++) {
                mixed = mixed * 31 + draft[i];
            }
            return (mixed ^ mixed >>> 10 ^ mixed >>> 20) & (STATE_SLOTS - 1);
        }

        boolean has(int[] draft, int width) {
            int s = head[slotOf(draft, width)];
            for (int n = 0; n < MOST_STATES && s >= 0 && s < count; n++) {
                if (isSame(draft, width, s * STATE_WIDTH)) {
                    return true;
                }
                s = next[s];
            }
            return false;
        }

        private boolean isSame(int[] draft, int width, int base) {
            for (int i = 0; i < width && i < STATE_WIDTH; i++) {
                if (draft[i] != at[base + i]) {
                    return false;
                }
            }
            return true;
        }

        void add(int[] draft, int width, int from, int session) {
            if (count < MOST_STATES) {
                int slot = slotOf(draft, width);
                System.arraycopy(draft, 0, at, count * STATE_WIDTH, STATE_WIDTH);
                parent[count] = from;
                mover[count] = session;
                next[count] = head[slot];
                head[slot] = count;
                count++;
            }
        }
    }

    /** The ways to receive what a SESSION may receive next, one after another. */
    private static final class Chooser {
        final Terms terms;
        final Knowledge intruder;
        /** The STATE that a way leads to: each way is written into it, from the place values on. */
        final int[] draft;
        private int values;
        private final int[][] options = new int[ANY_SORT + 1][MOST_TERMS];
        private final int[] optionCount = new int[ANY_SORT + 1];
        private final int[] choice = new int[MOST_VARIABLES];
        /** Of each part of the EVENT's TERM: what it is this way (NOTHING: no such is stored). */
        private final int[] is = new int[MOST_TERMS];
        private final boolean[] can = new boolean[MOST_TERMS];

        Chooser(Knowledge intruder, int[] draft) {
            this.intruder = intruder;
            this.draft = draft;
            terms = intruder.terms;
        }

        void listOptions() {
            Arrays.fill(optionCount, 0);
            for (int t = 0; t < terms.count; t++) {
                if (terms.ground[t]) {
                    addOption(ANY_SORT, t);
                    if (terms.kind[t] < ANY_SORT) {
                        addOption(terms.kind[t], t);
                    }
                }
            }
        }

        private void addOption(int sort, int term) {
            if (optionCount[sort] < MOST_TERMS) {
                options[sort][optionCount[sort]] = term;
                optionCount[sort]++;
            }
        }

        long waysOf(Event event) {
            long ways = 1;
            for (int j = 0; j < event.bindCount; j++) {
                ways *= optionCount[event.bindSort[j]];
            }
            return ways;
        }

        /** Chooses the first way, if there is one: the part from which it is to be weighed. */
        int first(Event event, int session) {
            values = session * SESSION_WIDTH + 1;
            for (int j = 0; j < event.bindCount; j++) {
                choose(event, j, 0);
            }
            return 0;
        }

        /** Chooses the way behind the latest one: the part from which it is to be weighed. */
        int next(Event event) {
            for (int j = event.bindCount - 1; j >= 0; j--) {
                if (choice[j] + 1 < optionCount[event.bindSort[j]]) {
                    choose(event, j, choice[j] + 1);
                    return event.partsFrom[j + 1];
                }
                choose(event, j, 0);
            }
            return 0;
        }

        private void choose(Event event, int j, int option) {
            choice[j] = option;
            draft[values + event.binds[j]] = options[event.bindSort[j]][option];
        }

        /** Whether THE ROW makes what was chosen. */
        boolean weigh(Event event, int fromPart) {
            for (int i = fromPart; i < event.partCount; i++) {
                int part = event.parts[i];
                is[part] = valueOf(part);
                can[part] = is[part] != NOTHING ? intruder.canMake(is[part], 0) : canCompose(part);
            }
            return can[event.term];
        }

        private int valueOf(int part) {
            if (terms.ground[part]) {
                return part;
            }
            if (terms.kind[part] == VARIABLE) {
                return draft[values + terms.place[part]];
            }
            int x = is[terms.first[part]];
            int second = terms.second[part];
            int y = second == NOTHING ? NOTHING : is[second];
            boolean stored = x != NOTHING && (y != NOTHING || second == NOTHING);
            return stored ? intruder.find(terms.kind[part], x, y) : NOTHING;
        }

        /** What is not stored is not in THE ROW: it has to be put together. */
        private boolean canCompose(int part) {
            int x = terms.first[part];
            int y = terms.second[part];
            switch (terms.kind[part]) {
                case PAIR:
                case SEAL:
                    return can[x] && can[y];
                case LOCK:
                case HASH:
                    return can[x];
                case PRIVATE:
                    return intruder.hasPrivateOf(is[x]);
                case SIGN:
                    return can[x] && intruder.hasPrivateOf(is[y]);
                default:
                    return false;
            }
        }
    }

    /** THE SEARCH, and what the latest one found. */
    private static final class Search {
        final Bench bench;
        final States states = new States();
        /** Of the STATE that is gone through, and of one that is reached by sending from it. */
        private final Knowledge here;
        private final Knowledge there;
        private final int[] draft = new int[STATE_WIDTH];
        private final Chooser chooser;
        private int width;
        private boolean secrets;
        final int[] path = new int[MOST_STEPS];
        int length;
        int ways;
        int finished;
        int answer;

        Search(Bench bench) {
            this.bench = bench;
            here = new Knowledge(bench.terms, 1);
            there = new Knowledge(bench.terms, 2);
            chooser = new Chooser(here, draft);
            length = NOTHING;
        }

        boolean hasAttack() {
            return length != NOTHING;
        }

        /** The STATE that ended THE SEARCH is the last one. */
        int attackBase() {
            return Math.max(0, states.count - 1) * STATE_WIDTH;
        }

        void forget() {
            states.empty();
            length = NOTHING;
            ways = 0;
            finished = 0;
            answer = 0;
        }

        void start() {
            forget();
            chooser.listOptions();
            width = bench.sessionCount * SESSION_WIDTH;
            secrets = bench.hasSecrets();
            System.arraycopy(bench.opening, 0, draft, 0, STATE_WIDTH);
            bench.fillKnowledge(there, draft, 0);
            reach(NOTHING, NOTHING, there);
        }

        boolean goesOn(int state) {
            return answer == 0 && state < states.count;
        }

        void goThrough(int state) {
            int base = state * STATE_WIDTH;
            boolean filled = false;
            for (int session = 0; session < bench.sessionCount && answer == 0; session++) {
                Event event = bench.due(states.at, base, session);
                if (event == null) {
                    continue;
                }
                System.arraycopy(states.at, base, draft, 0, STATE_WIDTH);
                draft[session * SESSION_WIDTH]++;
                if (!event.sends) {
                    if (!filled) {
                        bench.fillKnowledge(here, states.at, base);
                        filled = true;
                    }
                    tryWays(state, session, event);
                } else if (!states.has(draft, width)) {
                    if (secrets) {
                        bench.fillKnowledge(there, draft, 0);
                    }
                    reach(state, session, there);
                }
            }
        }

        private void tryWays(int state, int session, Event event) {
            long more = chooser.waysOf(event);
            if (more > MOST_WAYS - ways) {
                ways = MOST_WAYS + 1;
                answer = OPEN;
                return;
            }
            ways += (int) more;
            for (int way = 0; way < more && answer == 0; way++) {
                int part = way == 0 ? chooser.first(event, session) : chooser.next(event);
                if (chooser.weigh(event, part) && !states.has(draft, width)) {
                    // receiving brings the intruder nothing: what there is here, there is there
                    reach(state, session, here);
                }
            }
        }

        /** The draft is a STATE that is not there yet. */
        private void reach(int from, int session, Knowledge intruder) {
            if (states.count >= MOST_STATES) {
                answer = OPEN;
                return;
            }
            states.add(draft, width, from, session);
            if (bench.allHaveDoneAll(draft, 0)) {
                finished++;
            }
            for (int c = 0; c < bench.claimCount && answer == 0; c++) {
                if (bench.breaks(c, draft, 0, intruder)) {
                    answer = 1 + c;
                    tracePath(states.count - 1);
                }
            }
        }

        private void tracePath(int last) {
            int steps = 0;
            for (int s = last; s > 0 && steps < MOST_STEPS; s = states.parent[s]) {
                steps++;
            }
            length = steps;
            int s = last;
            for (int k = steps - 1; k >= 0; k--) {
                path[k] = states.mover[s];
                s = states.parent[s];
            }
        }
    }
}
