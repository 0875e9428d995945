import java.util.ArrayList;
import java.util.List;
import java.util.Set;
import java.util.TreeSet;

/** The document told once more, word by word and without thought of speed: what the class is compared with. */
final class Oracle {
    private static final Set<String> WORDS = Set.of("pack", "loader", "class", "face", "of", "under", "open", "near",
        "own", "static", "abstract", "lent", "int", "none");

    static final class T {
        int number;
        int pack;
        int loader;
        int what;
        T host;
        String name;
        final List<String> vars = new ArrayList<>();
        final List<T> bounds = new ArrayList<>();
        final List<T> refs = new ArrayList<>();
        final List<List<Object>> args = new ArrayList<>();
        final List<M> members = new ArrayList<>();
        final List<M> bridges = new ArrayList<>();
    }

    /** A member, or a bridge (then to and made are there); kinds are T, "int", "none", or a VAR's Integer. */
    static final class M {
        int number;
        T type;
        int access;
        int form;
        String name;
        List<Object> kinds = new ArrayList<>();
        Object result;
        M to;
        M made;
    }

    /** A fault ends the reading. */
    static final class Fault extends RuntimeException {
        private static final long serialVersionUID = 1L;
        final int number;
        final int place;

        Fault(int number, int place) {
            super(null, null, false, false);
            this.number = number;
            this.place = place;
        }
    }

    List<T> types = new ArrayList<>();
    List<M> members = new ArrayList<>();
    int packs;
    int fault;
    int hops;

    // ---- reading

    private String text;
    private int next;
    private int start;
    private String token;
    private final List<String> packNames = new ArrayList<>();

    int compile(String source) {
        Oracle read = new Oracle();
        read.text = source;
        try {
            read.readAll();
        } catch (Fault f) {
            fault = f.number;
            return -20 - f.place;
        }
        fault = 0;
        types = read.types;
        members = read.members;
        packs = read.packNames.size();
        return types.size();
    }

    private void pull() {
        while (next < text.length() && (text.charAt(next) == ' ' || text.charAt(next) == '\n')) {
            next++;
        }
        start = next;
        if (next == text.length()) {
            token = "";
            return;
        }
        String rest = text.substring(next);
        java.util.regex.Matcher matcher = java.util.regex.Pattern.compile("[A-Za-z][A-Za-z0-9]*|[0-9]|[;,:{}()<>]")
            .matcher(rest);
        if (!matcher.lookingAt() || matcher.end() > 8) {
            throw new Fault(1, start);
        }
        token = matcher.group();
        next += matcher.end();
    }

    private boolean isName() {
        return !token.isEmpty() && Character.isLetter(token.charAt(0)) && !WORDS.contains(token);
    }

    private void must(boolean stands) {
        if (!stands) {
            throw new Fault(2, start);
        }
    }

    private void fault(int number, boolean so) {
        if (so) {
            throw new Fault(number, start);
        }
    }

    private void pull(String wanted) {
        pull();
        must(token.equals(wanted));
    }

    private void pullName() {
        pull();
        must(isName());
    }

    private void readAll() {
        int pack = 0;
        int loader = 0;
        pull();
        while (!token.isEmpty()) {
            if (token.equals("pack")) {
                pullName();
                if (!packNames.contains(token)) {
                    packNames.add(token);
                }
                pack = packNames.indexOf(token) + 1;
                pull(";");
            } else if (token.equals("loader")) {
                pull();
                must(token.equals("0") || token.equals("1") || token.equals("2"));
                loader = token.charAt(0) - '0';
                pull(";");
            } else {
                must(token.equals("abstract") || token.equals("class") || token.equals("face"));
                fault(6, types.size() == 24);
                T t = new T();
                t.number = types.size();
                t.pack = pack;
                t.loader = loader;
                t.what = token.equals("abstract") ? 1 : token.equals("face") ? 2 : 0;
                if (t.what == 1) {
                    pull("class");
                }
                readType(t);
            }
            pull();
        }
    }

    private T named(T from, String name, boolean itself) {
        for (T t : types) {
            if (t.name.equals(name) && (t.loader == from.loader || t.loader == 0) && (itself || t != from)) {
                return t;
            }
        }
        return null;
    }

    private Object kindNamed(T from) {
        if (from.vars.contains(token)) {
            return from.vars.indexOf(token);
        }
        return named(from, token, true);
    }

    private void readType(T t) {
        pullName();
        for (T other : types) {
            fault(3, other.name.equals(token));
        }
        t.name = token;
        types.add(t);
        pull();
        if (token.equals("<")) {
            do {
                must(t.vars.size() < 2);
                pullName();
                fault(3, t.vars.contains(token));
                t.vars.add(token);
                t.bounds.add(null);
                pull();
                if (token.equals("under")) {
                    pullName();
                    T bound = named(t, token, true);
                    fault(3, bound == null);
                    t.bounds.set(t.vars.size() - 1, bound);
                    pull();
                }
            } while (token.equals(","));
            must(token.equals(">"));
            pull();
        }
        if (t.what != 2 && token.equals("of")) {
            pullName();
            T host = named(t, token, false);
            fault(3, host == null);
            fault(4, !samePackage(t, host) || host.host != null);
            t.host = host;
            pull();
        }
        if (token.equals(":")) {
            do {
                readRef(t);
            } while (token.equals(","));
        }
        must(token.equals("{"));
        pull();
        while (!token.equals("}")) {
            readMember(t);
            pull();
        }
        int number = lastBrace(t);
        fault(number, number != 0);
        makeBridges(t);
    }

    private void readRef(T t) {
        pullName();
        T ref = named(t, token, false);
        fault(3, ref == null);
        fault(4, ref.what != 2 && (t.what == 2 || !t.refs.isEmpty()));
        fault(4, t.refs.contains(ref));
        fault(6, t.refs.size() == 4);
        List<Object> args = new ArrayList<>();
        t.refs.add(ref);
        t.args.add(args);
        pull();
        if (token.equals("<")) {
            do {
                must(args.size() < 2);
                pullName();
                Object kind = kindNamed(t);
                fault(3, kind == null);
                args.add(kind);
                pull();
            } while (token.equals(","));
            must(token.equals(">"));
            pull();
        }
        must(token.equals(",") || token.equals("{"));
        fault(4, args.size() != ref.vars.size());
    }

    private void readMember(T t) {
        boolean first = true;
        M m = new M();
        m.type = t;
        m.number = members.size();
        String access = "";
        String form = "";
        boolean full = t.members.size() == 8 || members.size() == 120;
        if (Set.of("open", "near", "own").contains(token)) {
            access = token;
            fault(5, t.what == 2 && access.equals("near"));
            fault(6, full);
            first = false;
            pull();
        }
        if (Set.of("static", "abstract", "lent").contains(token)) {
            form = token;
            fault(5, t.what != 2 && form.equals("lent"));
            fault(5, form.equals("abstract") && (t.what == 0 || access.equals("own")));
            fault(6, first && full);
            first = false;
            pull();
        }
        must(token.equals("int") || token.equals("none") || isName());
        m.result = token.equals("int") || token.equals("none") ? token : kindNamed(t);
        fault(3, m.result == null);
        fault(5, t.what == 2 && access.equals("own") && form.isEmpty());
        fault(6, first && full);
        m.access = access.equals("open") || access.isEmpty() && t.what == 2 ? 3 : access.equals("near") ? 2
            : access.equals("own") ? 0 : 1;
        m.form = form.equals("static") ? 1 : form.equals("abstract") || form.isEmpty() && t.what == 2 ? 2
            : form.equals("lent") ? 3 : 0;
        pullName();
        m.name = token;
        pull("(");
        pull();
        if (!token.equals(")")) {
            readKind(t, m);
            pull();
            if (token.equals(",")) {
                pull();
                readKind(t, m);
                pull();
            }
        }
        must(token.equals(")"));
        pull(";");
        t.members.add(m);
        members.add(m);
    }

    private void readKind(T t, M m) {
        must(token.equals("int") || isName());
        Object kind = token.equals("int") ? token : kindNamed(t);
        fault(3, kind == null);
        m.kinds.add(kind);
    }

    private int lastBrace(T t) {
        for (M m : t.members) {
            for (M n : t.members) {
                if (m != n && m.name.equals(n.name) && erasedKinds(m).equals(erasedKinds(n))) {
                    return 7;
                }
            }
        }
        for (T s : above(t)) {
            if (allWays(t, s).size() > 1) {
                return 8;
            }
        }
        for (M m : t.members) {
            for (T s : above(t)) {
                for (M n : s.members) {
                    if (overrides(m, n, true) && ((m.form == 1) != (n.form == 1) || m.access < n.access
                        || !narrow(t, seen(t, m, m.result), seen(t, n, n.result)))) {
                        return 9;
                    }
                }
            }
        }
        return quarrel(t) ? 10 : 0;
    }

    private boolean quarrel(T t) {
        for (T s : above(t)) {
            for (T u : above(t)) {
                if (under(s, u) || under(u, s)) {
                    continue;
                }
                for (M m : s.members) {
                    for (M n : u.members) {
                        boolean free = m.form != 1 && n.form != 1 && m.access != 0 && n.access != 0;
                        if (free && m.name.equals(n.name) && seenKinds(t, m).equals(seenKinds(t, n))
                            && !seen(t, m, m.result).equals(seen(t, n, n.result))
                            && t.members.stream().noneMatch(o -> overrides(o, m, false) || overrides(o, n, false))) {
                            return true;
                        }
                    }
                }
            }
        }
        return false;
    }

    // ---- above

    List<T> above(T t) {
        List<T> order = new ArrayList<>();
        for (T ref : t.refs) {
            add(order, ref);
            for (T s : above(ref)) {
                add(order, s);
            }
        }
        return order;
    }

    private static void add(List<T> order, T t) {
        if (!order.contains(t)) {
            order.add(t);
        }
    }

    boolean under(T t, T of) {
        return t == of || above(t).contains(of);
    }

    boolean samePackage(T t, T u) {
        return t.pack == u.pack && t.loader == u.loader;
    }

    T nest(T t) {
        return t.host == null ? t : t.host;
    }

    /** The arguments of s as t sees them, by each way. */
    private Set<String> allWays(T t, T s) {
        Set<String> ways = new TreeSet<>();
        for (int i = 0; i < t.refs.size(); i++) {
            if (under(t.refs.get(i), s)) {
                List<Object> told = new ArrayList<>();
                for (Object kind : arguments(t.refs.get(i), s)) {
                    told.add(replaced(kind, t.args.get(i)));
                }
                StringBuilder way = new StringBuilder();
                for (Object kind : told) {
                    way.append(kind instanceof T ? "type" + ((T) kind).number : "var" + kind).append(' ');
                }
                ways.add(way.toString());
            }
        }
        return ways;
    }

    private static Object replaced(Object kind, List<Object> args) {
        return kind instanceof Integer ? args.get((Integer) kind) : kind;
    }

    private List<Object> arguments(T t, T s) {
        List<Object> args = new ArrayList<>();
        if (t == s) {
            for (int k = 0; k < t.vars.size(); k++) {
                args.add(k);
            }
            return args;
        }
        for (int i = 0; i < t.refs.size(); i++) {
            if (under(t.refs.get(i), s)) {
                for (Object kind : arguments(t.refs.get(i), s)) {
                    args.add(replaced(kind, t.args.get(i)));
                }
                return args;
            }
        }
        return args;
    }

    Object seen(T t, M m, Object kind) {
        return replaced(kind, arguments(t, m.type));
    }

    private List<Object> seenKinds(T t, M m) {
        List<Object> kinds = new ArrayList<>();
        for (Object kind : m.kinds) {
            kinds.add(seen(t, m, kind));
        }
        return kinds;
    }

    Object erased(T t, Object kind) {
        if (kind instanceof Integer) {
            T bound = t.bounds.get((Integer) kind);
            return bound == null ? "any" : bound;
        }
        return kind;
    }

    /** Of a bridge: those of the one for which it was made. */
    List<Object> erasedKinds(M m) {
        M of = m.made == null ? m : m.made;
        List<Object> kinds = new ArrayList<>();
        for (Object kind : of.kinds) {
            kinds.add(erased(of.type, kind));
        }
        return kinds;
    }

    Object erasedResult(M m) {
        M of = m.made == null ? m : m.made;
        return erased(of.type, of.result);
    }

    private boolean narrow(T t, Object result, Object wanted) {
        if (result.equals(wanted)) {
            return true;
        }
        Object it = result instanceof Integer ? erased(t, result) : result;
        return wanted instanceof T && it instanceof T && under((T) it, (T) wanted);
    }

    boolean overrides(M m, M n, boolean maybeStatic) {
        if (m.type == n.type || !under(m.type, n.type) || !m.name.equals(n.name)
            || !seenKinds(m.type, m).equals(seenKinds(m.type, n)) || m.access == 0 || n.access == 0) {
            return false;
        }
        if (!maybeStatic && (m.form == 1 || n.form == 1)) {
            return false;
        }
        if (n.access >= 2 || samePackage(m.type, n.type)) {
            return true;
        }
        for (T s : above(m.type)) {
            for (M o : s.members) {
                if (s != n.type && under(s, n.type) && overrides(m, o, false) && overrides(o, n, false)) {
                    return true;
                }
            }
        }
        return false;
    }

    private boolean sameCall(M m, M n) {
        return m.name.equals(n.name) && erasedKinds(m).equals(erasedKinds(n)) && erasedResult(m).equals(erasedResult(n));
    }

    private void makeBridges(T t) {
        for (M m : t.members) {
            if (m.form == 2 || m.form == 1 || m.access == 0) {
                continue;
            }
            for (T s : above(t)) {
                for (M n : s.members) {
                    if (overrides(m, n, false) && !sameCall(m, n) && find(t, n) == null) {
                        M bridge = new M();
                        bridge.type = t;
                        bridge.name = m.name;
                        bridge.access = m.access;
                        bridge.to = m;
                        bridge.made = n;
                        t.bridges.add(bridge);
                    }
                }
            }
        }
    }

    // ---- calls

    private M find(T t, M wanted) {
        for (M m : t.members) {
            if (sameCall(m, wanted)) {
                return m;
            }
        }
        for (M b : t.bridges) {
            if (sameCall(b, wanted)) {
                return b;
            }
        }
        return null;
    }

    private T classAbove(T t) {
        return t.refs.isEmpty() || t.refs.get(0).what == 2 ? null : t.refs.get(0);
    }

    private List<M> candidates(T t, M wanted) {
        List<M> all = new ArrayList<>();
        if (t.what == 2 && find(t, wanted) != null) {
            all.add(find(t, wanted));
            return all;
        }
        for (T s : above(t)) {
            M m = s.what == 2 ? find(s, wanted) : null;
            if (m != null && m.access != 0 && m.form != 1) {
                all.add(m);
            }
        }
        return all;
    }

    List<M> specific(T t, M wanted) {
        List<M> all = candidates(t, wanted);
        List<M> some = new ArrayList<>();
        for (M m : all) {
            if (all.stream().noneMatch(n -> n != m && under(n.type, m.type))) {
                some.add(m);
            }
        }
        return some;
    }

    private List<M> bodies(T t, M wanted) {
        List<M> some = specific(t, wanted);
        some.removeIf(m -> m.form == 2);
        return some;
    }

    M lookup(T t, M wanted) {
        if (t.what != 2) {
            for (T c = t; c != null; c = classAbove(c)) {
                if (find(c, wanted) != null) {
                    return find(c, wanted);
                }
            }
        }
        List<M> bodies = bodies(t, wanted);
        if (bodies.size() == 1) {
            return bodies.get(0);
        }
        List<M> all = candidates(t, wanted);
        return all.isEmpty() ? null : all.get(0);
    }

    boolean may(T caller, T named, M found, T receiver) {
        T d = found.type;
        if (found.access == 3) {
            return true;
        }
        if (found.access == 0) {
            return nest(caller) == nest(d);
        }
        if (samePackage(caller, d)) {
            return true;
        }
        return found.access == 2 && under(caller, d)
            && (found.form == 1 || (under(named, caller) || under(caller, named)) && under(receiver, caller));
    }

    private boolean canReplace(M r, M f) {
        if (!sameCall(r, f) || r.access == 0 || r.form == 1 || f.access == 0 || f.form == 1) {
            return false;
        }
        if (f.access >= 2 || samePackage(r.type, f.type)) {
            return true;
        }
        for (T c = classAbove(r.type); c != null && c != f.type; c = classAbove(c)) {
            M o = find(c, f);
            if (o != null && canReplace(o, f) && canReplace(r, o)) {
                return true;
            }
        }
        return false;
    }

    private Object select(M f, T receiver) {
        if (f.access == 0) {
            return f;
        }
        for (T c = receiver; c != null; c = classAbove(c)) {
            M r = find(c, f);
            if (r != null && (r == f || canReplace(r, f))) {
                return r.form == 2 ? (Object) (-4) : r;
            }
        }
        List<M> bodies = bodies(receiver, f);
        return bodies.isEmpty() ? (Object) (-4) : bodies.size() > 1 ? (Object) (-3) : bodies.get(0);
    }

    private int run(Object what, T receiver) {
        Object now = what;
        while (now instanceof M && ((M) now).to != null) {
            if (hops == 8) {
                return -7;
            }
            hops++;
            now = select(((M) now).to, receiver);
        }
        return now instanceof M ? ((M) now).number : (Integer) now;
    }

    int rule(int sort, T caller, T named, M wanted, T receiver) {
        hops = 0;
        boolean face = named.what == 2;
        if (sort == 0 && face || sort == 1 && !face || sort == 2 && face && !caller.refs.contains(named)) {
            return -5;
        }
        T in = sort == 2 && !face && named != caller && under(caller, named) ? classAbove(caller) : named;
        M found = lookup(in, wanted);
        if (found == null) {
            return -1;
        }
        if (!may(caller, named, found, sort == 3 ? caller : receiver)) {
            return -2;
        }
        if ((found.form == 1) != (sort == 3)) {
            return -5;
        }
        if (sort != 3 && (receiver.what != 0 || sort != 2 && !under(receiver, named))) {
            return -6;
        }
        if (sort == 2 && (!under(receiver, caller) || caller == named || !under(caller, named))) {
            return -6;
        }
        if (sort >= 2) {
            return found.form == 2 ? -4 : run(found, receiver);
        }
        return run(select(found, receiver), receiver);
    }

    int tally(T t, int outcome, boolean conflicts) {
        int sum = 0;
        for (M m : members) {
            if (under(t, m.type)) {
                int sort = m.form == 1 && !conflicts ? 3 : m.type.what == 2 ? 1 : 0;
                int given = rule(sort, m.type, m.type, m, t);
                if (given == outcome || outcome == 0 && given > 0) {
                    sum++;
                }
            }
        }
        return sum;
    }

    // ---- as the face tells

    static int told(Object kind) {
        if (kind instanceof T) {
            return ((T) kind).number;
        }
        if (kind instanceof Integer) {
            return 100 + (Integer) kind;
        }
        return kind.equals("int") ? -3 : kind.equals("none") ? -2 : -1;
    }

    static int told(M method) {
        return method == null ? -1 : method.to == null ? method.number : 1000 + method.to.number;
    }
}
