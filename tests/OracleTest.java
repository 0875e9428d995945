import java.util.ArrayList;
import java.util.List;
import java.util.Random;

/** Texts made by chance (of a fixed seed), and every answer of the class compared with the oracle's. */
public final class OracleTest {
    private static Random random;

    public static void main(String[] args) {
        int texts = args.length > 0 ? Integer.parseInt(args[0]) : 4000;
        int seed = args.length > 1 ? Integer.parseInt(args[1]) : 1;
        int[] faults = new int[11];
        int[] outcomes = new int[8];
        int manyHops = 0;
        CallCourt court = new CallCourt();
        Oracle oracle = new Oracle();
        for (int i = 0; i < texts; i++) {
            random = new Random(seed * 1000003L + i);
            String text = i % 3 == 0 ? bridgeText() : text();
            if (i % 50 == 0) {
                court = new CallCourt();
                oracle = new Oracle();
            }
            int want = oracle.compile(text);
            Bench.due("compile of " + text, Bench.compile(court, text), want);
            Bench.due("fault of " + text, court.fault(), oracle.fault);
            faults[oracle.fault]++;
            if (want >= 0 || i % 10 == 0) {
                compareTypes(court, oracle, text);
                compareMembers(court, oracle, text);
                manyHops += compareCalls(court, oracle, text, outcomes);
            }
        }
        StringBuilder seen = new StringBuilder("faults 0 to 10:");
        for (int f : faults) {
            seen.append(' ').append(f);
        }
        seen.append("; outcomes of rule 0 to -7:");
        for (int o : outcomes) {
            seen.append(' ').append(o);
        }
        System.out.println(seen.append("; through two bridges or more: ").append(manyHops));
        Bench.end();
    }

    // ---- texts

    private static boolean chance(int percent) {
        return random.nextInt(100) < percent;
    }

    private static String one(String... of) {
        return of[random.nextInt(of.length)];
    }

    private static String one(List<String> of) {
        return of.get(random.nextInt(of.size()));
    }

    /** What the maker knows of the types that it has told. */
    private static final class Known {
        final List<String> names = new ArrayList<>();
        final List<Boolean> faces = new ArrayList<>();
        final List<Integer> vars = new ArrayList<>();
    }

    private static String text() {
        Known known = new Known();
        StringBuilder text = new StringBuilder();
        int count = 2 + random.nextInt(9);
        int packs = chance(50) ? 25 : 0;
        int loaders = chance(25) ? 15 : 0;
        int style = random.nextInt(6);
        for (int i = 0; i < count; i++) {
            if (chance(packs)) {
                text.append("pack ").append(one("p", "q")).append(';');
            }
            if (chance(loaders)) {
                text.append("loader ").append(one("0", "1", "1")).append(';');
            }
            type(text, known, style);
        }
        return chance(12) ? damaged(text.toString()) : text.toString();
    }

    /** Faces and classes that have one member m of one kind each at most: bridges upon bridges. */
    private static String bridgeText() {
        StringBuilder text = new StringBuilder("class T0{}class T1").append(chance(50) ? ":T0" : "").append("{}");
        int count = 5 + random.nextInt(7);
        List<Integer> faces = new ArrayList<>();
        List<Integer> vars = new ArrayList<>();
        int lastClass = -1;
        for (int t = 2; t < count; t++) {
            boolean face = t < 4 || chance(60);
            boolean hasVar = face && chance(50);
            text.append(face ? "face T" : "class T").append(t);
            text.append(hasVar ? one("<V under T0>", "<V under T1>", "<V>") : "");
            boolean isFirst = true;
            if (!face && lastClass >= 0 && chance(60)) {
                text.append(":T").append(lastClass);
                isFirst = false;
            }
            int refs = random.nextInt(face ? 2 : 3);
            int from = faces.isEmpty() ? 0 : random.nextInt(faces.size());
            for (int i = 0; i < refs && i < faces.size(); i++) {
                int ref = faces.get((from + i) % faces.size());
                text.append(isFirst ? ":T" : ",T").append(ref);
                text.append(vars.contains(ref) ? hasVar ? one("<V>", "<T0>", "<T1>") : one("<T0>", "<T1>") : "");
                isFirst = false;
            }
            text.append('{');
            if (chance(face ? 90 : 40)) {
                text.append(face ? one("lent ", "lent ", "") : "open ").append("none m(");
                text.append(hasVar ? one("V", "V", "T0", "T1") : one("T0", "T1")).append(");");
            }
            text.append('}');
            if (face) {
                faces.add(t);
            } else {
                lastClass = t;
            }
            if (hasVar) {
                vars.add(t);
            }
        }
        return text.toString();
    }

    private static void type(StringBuilder text, Known known, int style) {
        int number = known.names.size();
        boolean face = chance(style == 0 || style == 5 ? 65 : 40);
        boolean isAbstract = !face && chance(25);
        String name = "T" + number;
        text.append(isAbstract ? "abstract " : "").append(face ? "face " : "class ").append(name);
        List<String> kinds = new ArrayList<>();
        for (String told : known.names) {
            if (kinds.size() < 4) {
                kinds.add(told);
            }
        }
        kinds.add(name);
        int vars = chance(45) ? 1 + random.nextInt(2) : 0;
        for (int k = 0; k < vars; k++) {
            text.append(k == 0 ? "<" : ",").append(k == 0 ? "V" : "W");
            if (chance(50)) {
                text.append(" under ").append(one(kinds));
            }
        }
        text.append(vars > 0 ? ">" : "");
        if (!face && number > 0 && chance(15)) {
            text.append(" of ").append(one(known.names));
        }
        List<String> arguments = new ArrayList<>(kinds);
        if (vars > 0) {
            arguments.add("V");
            arguments.add("V");
        }
        if (vars > 1) {
            arguments.add("W");
        }
        refs(text, known, face, arguments);
        known.names.add(name);
        known.faces.add(face);
        known.vars.add(vars);
        text.append('{');
        int members = style >= 4 || style == 0 ? (chance(75) ? 1 : 0) : random.nextInt(3);
        for (int i = 0; i < members; i++) {
            member(text, face, isAbstract, arguments, style);
        }
        text.append('}');
    }

    private static void refs(StringBuilder text, Known known, boolean face, List<String> arguments) {
        List<Integer> classes = new ArrayList<>();
        List<Integer> faces = new ArrayList<>();
        for (int t = 0; t < known.names.size(); t++) {
            (known.faces.get(t) ? faces : classes).add(t);
        }
        List<Integer> refs = new ArrayList<>();
        if (!face && !classes.isEmpty() && chance(65)) {
            refs.add(chance(60) ? classes.get(classes.size() - 1) : classes.get(random.nextInt(classes.size())));
        }
        int count = random.nextInt(4);
        for (int i = 0; i < count && !faces.isEmpty(); i++) {
            int ref = faces.get(random.nextInt(faces.size()));
            if (!refs.contains(ref) || chance(2)) {
                refs.add(ref);
            }
        }
        for (int i = 0; i < refs.size(); i++) {
            text.append(i == 0 ? ":" : ",").append(known.names.get(refs.get(i)));
            int vars = known.vars.get(refs.get(i));
            for (int k = 0; k < vars; k++) {
                text.append(k == 0 ? "<" : ",").append(chance(60) ? arguments.get(0) : one(arguments));
            }
            text.append(vars > 0 ? ">" : "");
        }
    }

    private static void member(StringBuilder text, boolean face, boolean isAbstract, List<String> kinds, int style) {
        String access = face ? one("", "", "", "open ", "own ") : one("", "near ", "open ", "open ", "open ", "open ", "own ");
        if (style == 1 && !face && chance(60)) {
            access = "";
        }
        String form = face ? one("", "lent ", "lent ", "static ", "abstract ") : isAbstract ? one("", "abstract ", "static ")
            : one("", "", "", "", "", "", "static ");
        if (access.equals("own ") && (form.equals("abstract ") || face && form.isEmpty()) && chance(95)) {
            form = face ? "lent " : "";
        }
        if (style >= 4 && chance(90)) {
            access = face ? "" : "open ";
            form = face ? one("", "lent ", "lent ") : isAbstract ? one("", "abstract ") : "";
        }
        text.append(access).append(form);
        boolean plain = style == 0 || style >= 4;
        text.append(style == 2 ? one(kinds) : plain || chance(80) ? "none" : chance(20) ? "int" : one(kinds)).append(' ');
        text.append(plain || chance(80) ? "m" : "k").append('(');
        int count = style == 0 ? 0 : style >= 4 ? 1 : style == 2 ? random.nextInt(2) : random.nextInt(3);
        for (int k = 0; k < count; k++) {
            text.append(k == 0 ? "" : ",").append(chance(10) ? "int" : one(kinds));
        }
        text.append(");");
    }

    private static String damaged(String text) {
        if (text.isEmpty()) {
            return "$";
        }
        int at = random.nextInt(text.length());
        String rest = text.substring(at + (chance(50) ? 1 : 0));
        return text.substring(0, at) + one("", "", " ", "\n", ";", "}", "{", ",", "<", ">", "x", "7", "$", " own ", " near ",
            " static ", " lent ", " int ", " none ", " abstract ", " under ", " of ", " T0 ", " T1 ", ":") + rest;
    }

    // ---- comparing

    private static void compareTypes(CallCourt x, Oracle o, String text) {
        Bench.due("told(0) of " + text, x.told(0), o.types.size());
        Bench.due("told(1) of " + text, x.told(1), o.members.size());
        Bench.due("told(3) of " + text, x.told(3), o.packs);
        int bridges = 0;
        for (Oracle.T t : o.types) {
            List<Oracle.T> above = o.above(t);
            int classAbove = t.refs.isEmpty() || t.refs.get(0).what == 2 ? CallCourt.NONE : t.refs.get(0).number;
            int first = t.members.isEmpty() ? CallCourt.NONE : t.members.get(0).number;
            int[] want = {t.pack, t.loader, t.what, classAbove, o.nest(t).number, t.members.size(), t.bridges.size(),
                t.vars.size(), above.size(), first};
            for (int what = 0; what < want.length; what++) {
                Bench.due("type(" + t.number + ", " + what + ") of " + text, x.type(t.number, what), want[what]);
            }
            for (int i = 0; i < above.size(); i++) {
                Bench.due("above(" + t.number + ", " + i + ") of " + text, x.above(t.number, i), above.get(i).number);
            }
            for (Oracle.T u : o.types) {
                String both = "(" + t.number + ", " + u.number + ") of " + text;
                Bench.due("under" + both, x.under(t.number, u.number), o.under(t, u) ? 1 : 0);
                Bench.due("same package" + both, x.same(t.number, u.number, false), o.samePackage(t, u) ? 1 : 0);
                Bench.due("same nest" + both, x.same(t.number, u.number, true), o.nest(t) == o.nest(u) ? 1 : 0);
            }
            bridges += t.bridges.size();
            compareBridges(x, o, t, text);
        }
        Bench.due("told(2) of " + text, x.told(2), bridges);
    }

    private static void compareBridges(CallCourt x, Oracle o, Oracle.T t, String text) {
        for (int i = 0; i < t.bridges.size(); i++) {
            Oracle.M b = t.bridges.get(i);
            List<Object> kinds = o.erasedKinds(b);
            int[] want = {b.to.number, b.made.number, kind(kinds, 0), kind(kinds, 1), Oracle.told(o.erasedResult(b))};
            for (int what = 0; what < want.length; what++) {
                Bench.due("bridge(" + t.number + ", " + i + ", " + what + ") of " + text, x.bridge(t.number, i, what),
                    want[what]);
            }
        }
    }

    private static int kind(List<Object> kinds, int k) {
        return k < kinds.size() ? Oracle.told(kinds.get(k)) : CallCourt.NONE;
    }

    private static void compareMembers(CallCourt x, Oracle o, String text) {
        for (Oracle.M m : o.members) {
            int[] want = {m.type.number, m.access, m.form, m.kinds.size()};
            for (int what = 0; what < want.length; what++) {
                Bench.due("member(" + m.number + ", " + what + ") of " + text, x.member(m.number, what), want[what]);
            }
            for (int k = 0; k < 3; k++) {
                int erased = k == 2 ? Oracle.told(o.erasedResult(m)) : kind(o.erasedKinds(m), k);
                Bench.due("erased(" + m.number + ", " + k + ") of " + text, x.erased(m.number, k), erased);
                for (Oracle.T t : o.types) {
                    boolean there = (k == 2 || k < m.kinds.size()) && o.under(t, m.type);
                    int seen = !there ? CallCourt.NONE : Oracle.told(o.seen(t, m, k == 2 ? m.result : m.kinds.get(k)));
                    Bench.due("seen(" + t.number + ", " + m.number + ", " + k + ") of " + text,
                        x.seen(t.number, m.number, k), seen);
                }
            }
            for (Oracle.M n : o.members) {
                Bench.due("overrides(" + m.number + ", " + n.number + ") of " + text, x.overrides(m.number, n.number),
                    o.overrides(m, n, false) ? 1 : 0);
            }
        }
    }

    private static int compareCalls(CallCourt x, Oracle o, String text, int[] outcomes) {
        for (Oracle.T t : o.types) {
            for (Oracle.M m : o.members) {
                String both = "(" + t.number + ", " + m.number + ") of " + text;
                Bench.due("lookup" + both, x.lookup(t.number, m.number), Oracle.told(o.lookup(t, m)));
                List<Oracle.M> specific = o.specific(t, m);
                for (int i = 0; i <= specific.size(); i++) {
                    int want = i < specific.size() ? Oracle.told(specific.get(i)) : CallCourt.NONE;
                    Bench.due("specific " + i + " " + both, x.specific(t.number, m.number, i), want);
                }
            }
            for (int outcome = -7; outcome <= 0; outcome++) {
                int want = t.what == 0 ? o.tally(t, outcome, false) : CallCourt.NONE;
                Bench.due("tally(" + t.number + ", " + outcome + ") of " + text, x.tally(t.number, outcome), want);
            }
            int conflicts = t.what == 0 ? o.tally(t, -3, true) : CallCourt.NONE;
            Bench.due("conflicts(" + t.number + ") of " + text, x.conflicts(t.number), conflicts);
        }
        int manyHops = 0;
        for (int i = 0; i < 300 && !o.members.isEmpty(); i++) {
            Oracle.T caller = o.types.get(random.nextInt(o.types.size()));
            Oracle.M m = o.members.get(random.nextInt(o.members.size()));
            Oracle.T named = chance(40) ? m.type : o.types.get(random.nextInt(o.types.size()));
            Oracle.T receiver = o.types.get(random.nextInt(o.types.size()));
            manyHops += compareUse(x, o, random.nextInt(4), new Oracle.T[] {chance(50) ? named : caller, named, receiver}, m,
                text, outcomes);
        }
        for (Oracle.T receiver : o.types) {
            for (Oracle.M m : o.members) {
                if (receiver.what == 0 && o.under(receiver, m.type)) {
                    Oracle.T named = chance(50) ? m.type : receiver;
                    manyHops += compareUse(x, o, named.what == 2 ? 1 : 0, new Oracle.T[] {named, named, receiver}, m, text,
                        outcomes);
                }
            }
        }
        return manyHops;
    }

    /** who: the caller, the named type, the receiver. */
    private static int compareUse(CallCourt x, Oracle o, int sort, Oracle.T[] who, Oracle.M m, String text, int[] outcomes) {
        int caller = who[0].number;
        int named = who[1].number;
        int receiver = who[2].number;
        String use = "(" + caller + ", " + named + ", " + m.number + ", " + receiver + ") of " + text;
        Oracle.M found = o.lookup(who[1], m);
        Bench.due("may" + use, x.may(caller, named, m.number, receiver),
            found == null ? -1 : o.may(who[0], who[1], found, who[2]) ? 1 : 0);
        int want = o.rule(sort, who[0], who[1], m, who[2]);
        Bench.due("rule " + sort + " " + use, x.rule(sort, caller, named, m.number, receiver), want);
        Bench.due("hops() behind rule " + sort + " " + use, x.hops(), o.hops);
        outcomes[-Math.min(want, 0)]++;
        return o.hops > 1 ? 1 : 0;
    }
}
