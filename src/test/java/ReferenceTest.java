import java.util.ArrayList;
import java.util.Arrays;
import java.util.HashMap;
import java.util.HashSet;
import java.util.List;
import java.util.Map;
import java.util.Set;

/** Runs of many calls, each answer compared with that of a second, plain program of the document. */
public final class ReferenceTest {
    private static int wrong = 0;
    private static final int[] FAULTS = new int[5];
    private static final int[] GOES = new int[5];
    private static final int[] SORTS_TYPED = new int[9];
    private static final int[] THROWN = new int[4];

    // ---- the second program: types as trees, copied wherever they are used

    private static final class Type {
        final int kind;
        Type left;
        Type right;
        Type given;

        Type(int kind, Type left, Type right) {
            this.kind = kind;
            this.left = left;
            this.right = right;
        }
    }

    private static final int VARIABLE = 9;

    private record Scheme(int name, Set<Type> own, Type type) { }

    private record Part(int sort, int[] of, int label, int size, int depth) { }

    private static final class Fault extends Exception {
        private static final long serialVersionUID = 1L;
        final int fault;
        int at;

        Fault(int fault, int at) {
            super(null, null, false, false);
            this.fault = fault;
            this.at = at;
        }
    }

    /** The second program works on whole trees; a run with one too great for it is left out. */
    private static final class TooGreat extends RuntimeException {
        private static final long serialVersionUID = 1L;
    }

    private static final class Mill {
        final List<Part> parts = new ArrayList<>();
        long steps;

        void step() {
            if (++steps > 3_000_000L) {
                throw new TooGreat();
            }
        }

        Type look(Type t) {
            while (t.given != null) {
                t = t.given;
            }
            return t;
        }

        void row(Type type, Map<Type, Integer> variables, List<Integer> into) {
            step();
            Type t = look(type);
            if (into.size() > 61) {
                return;
            }
            if (t.kind == VARIABLE) {
                variables.putIfAbsent(t, 10 + variables.size());
                into.add(variables.get(t));
                return;
            }
            into.add(t.kind);
            if (t.left != null) {
                row(t.left, variables, into);
                row(t.right, variables, into);
            }
        }

        List<Integer> row(Type type) {
            List<Integer> into = new ArrayList<>();
            row(type, new HashMap<>(), into);
            return into;
        }

        boolean within(Type variable, Type type) {
            step();
            Type t = look(type);
            return t == variable || t.left != null && (within(variable, t.left) || within(variable, t.right));
        }

        int unify(Type one, Type two) {
            step();
            Type a = look(one);
            Type b = look(two);
            if (a == b) {
                return 0;
            }
            if (a.kind == VARIABLE) {
                if (within(a, b)) {
                    return 3;
                }
                a.given = b;
                return 0;
            }
            if (b.kind == VARIABLE) {
                return unify(b, a);
            }
            if (a.kind != b.kind) {
                return 2;
            }
            if (a.left == null) {
                return 0;
            }
            int met = unify(a.left, b.left);
            return met != 0 ? met : unify(a.right, b.right);
        }

        void need(int met, int part) throws Fault {
            if (met != 0) {
                throw new Fault(met, part);
            }
        }

        void free(Type type, Set<Type> into) {
            step();
            Type t = look(type);
            if (t.kind == VARIABLE) {
                into.add(t);
            } else if (t.left != null) {
                free(t.left, into);
                free(t.right, into);
            }
        }

        Type copy(Type type, Map<Type, Type> fresh) {
            step();
            Type t = look(type);
            if (t.kind == VARIABLE) {
                return fresh.getOrDefault(t, t);
            }
            return t.left == null ? t : new Type(t.kind, copy(t.left, fresh), copy(t.right, fresh));
        }

        static Type variable() {
            return new Type(VARIABLE, null, null);
        }

        static List<Scheme> with(List<Scheme> names, Scheme more) {
            List<Scheme> all = new ArrayList<>(names);
            all.add(more);
            return all;
        }

        Type find(int number, List<Scheme> names) throws Fault {
            Type t = findAny(number, names);
            if (row(t).size() > 60) {
                throw new Fault(4, number);
            }
            return t;
        }

        Type findAny(int number, List<Scheme> names) throws Fault {
            Part p = parts.get(number);
            switch (p.sort()) {
                case 0:
                case 1:
                    return new Type(p.sort(), null, null);
                case 2: {
                    Scheme latest = null;
                    for (Scheme s : names) {
                        latest = s.name() == p.label() ? s : latest;
                    }
                    if (latest == null) {
                        throw new Fault(1, number);
                    }
                    Map<Type, Type> fresh = new HashMap<>();
                    for (Type own : latest.own()) {
                        fresh.put(own, variable());
                    }
                    return copy(latest.type(), fresh);
                }
                case 3: {
                    Type from = variable();
                    Type to = find(p.of()[0], with(names, new Scheme(p.label(), Set.of(), from)));
                    return new Type(2, from, to);
                }
                case 4: {
                    Type first = find(p.of()[0], names);
                    Type second = find(p.of()[1], names);
                    Type made = variable();
                    need(unify(first, new Type(2, second, made)), number);
                    return made;
                }
                case 5: {
                    Type told = find(p.of()[0], names);
                    Set<Type> own = new HashSet<>();
                    free(told, own);
                    for (Scheme s : names) {
                        Set<Type> taken = new HashSet<>();
                        free(s.type(), taken);
                        taken.removeAll(s.own());
                        own.removeAll(taken);
                    }
                    return find(p.of()[1], with(names, new Scheme(p.label(), own, told)));
                }
                case 6:
                    return axle(p, names);
                case 7: {
                    Type whole = find(p.of()[0], names);
                    Type l = variable();
                    Type r = variable();
                    need(unify(whole, new Type(3, l, r)), number);
                    return p.label() == 0 ? l : r;
                }
                default: {
                    need(unify(find(p.of()[0], names), new Type(1, null, null)), number);
                    Type second = find(p.of()[1], names);
                    Type third = find(p.of()[2], names);
                    need(unify(second, third), number);
                    return second;
                }
            }
        }

        Type axle(Part p, List<Scheme> names) throws Fault {
            Type l = find(p.of()[0], names);
            return new Type(3, l, find(p.of()[1], names));
        }

        int[] alone(int number) {
            steps = 0;
            try {
                List<Integer> row = row(find(number, List.of()));
                return row.stream().mapToInt(i -> i).toArray();
            } catch (Fault f) {
                return new int[] {-f.fault, f.at};
            }
        }

        int depth(int[] row, int[] at) {
            int code = row[at[0]++];
            if (code != 2 && code != 3) {
                return 1;
            }
            int l = depth(row, at);
            return 1 + Math.max(l, depth(row, at));
        }

        int[] type(int number) {
            int[] row = alone(number);
            if (row[0] < 0) {
                return new int[] {-row[0], row[1], 0, 0, 0};
            }
            int variables = (int) Arrays.stream(row).filter(c -> c >= 10).distinct().count();
            return new int[] {0, -1, row.length, variables, depth(row, new int[1])};
        }

        int[] part(int number) {
            Part p = parts.get(number);
            int[] facts = {p.sort(), -1, -1, -1, p.label(), p.size(), p.depth()};
            System.arraycopy(p.of(), 0, facts, 1, p.of().length);
            return facts;
        }

        int count(int what) {
            int n = 0;
            for (int i = 0; i < parts.size(); i++) {
                n += what == 0 || type(i)[0] == what - 1 ? 1 : 0;
            }
            return n;
        }

        String texts(int[] row, int from, int to) {
            return Arrays.toString(Arrays.copyOfRange(row, from, to));
        }

        boolean fits(int a, int b) {
            int[] general = alone(a);
            int[] special = alone(b);
            if (general[0] < 0 || special[0] < 0) {
                return false;
            }
            Map<Integer, String> put = new HashMap<>();
            int at = 0;
            for (int code : general) {
                int[] end = {at};
                depth(special, end);
                if (code < 10) {
                    if (special[at] != code) {
                        return false;
                    }
                    at++;
                } else {
                    String text = texts(special, at, end[0]);
                    String before = put.putIfAbsent(code, text);
                    if (before != null && !before.equals(text)) {
                        return false;
                    }
                    at = end[0];
                }
            }
            return true;
        }

        /** As the document says: really makes the turning, at the end of the list, and takes it off. */
        int goes(int a, int b) {
            parts.add(new Part(4, new int[] {a, b}, -1, 0, 0));
            int fault = type(parts.size() - 1)[0];
            parts.remove(parts.size() - 1);
            return fault;
        }

        int first(int a) {
            for (int i = 0; i < parts.size(); i++) {
                if (goes(a, i) == 0) {
                    return i;
                }
            }
            return -1;
        }

        long digest() {
            long d = 1597;
            for (int i = 0; i < 6; i++) {
                d = d * 31 + count(i);
            }
            for (int i = 0; i < parts.size(); i++) {
                for (int x : part(i)) {
                    d = d * 31 + x;
                }
                int[] type = type(i);
                for (int x : type) {
                    d = d * 31 + x;
                }
                if (type[0] == 0) {
                    for (int x : alone(i)) {
                        d = d * 31 + x;
                    }
                }
            }
            return d;
        }

        int longest() {
            int best = -1;
            int most = 0;
            for (int i = 0; i < parts.size(); i++) {
                if (type(i)[2] > most) {
                    most = type(i)[2];
                    best = i;
                }
            }
            return best;
        }

        double mean() {
            double sum = 0;
            int n = 0;
            for (int i = 0; i < parts.size(); i++) {
                n += type(i)[0] == 0 ? 1 : 0;
                sum += type(i)[2];
            }
            return n == 0 ? 0 : sum / n;
        }

        /** The number of the new part, -2 for an index, -3 for an argument, -4 for the state. */
        int add(int sort, int label, int least, int most, int... of) {
            for (int p : of) {
                if (p < 0 || p >= parts.size()) {
                    return -2;
                }
            }
            if (label < least || label > most) {
                return -3;
            }
            int size = 1;
            int depth = 0;
            for (int p : of) {
                size += parts.get(p).size();
                depth = Math.max(depth, parts.get(p).depth());
            }
            if (parts.size() == 40 || size > 60) {
                return -4;
            }
            parts.add(new Part(sort, of, label, size, depth + 1));
            return parts.size() - 1;
        }
    }

    // ---- the runs

    private static final class Numbers {
        private long seed;

        Numbers(long seed) {
            this.seed = seed * 0x9E3779B97F4A7C15L + 12345;
        }

        int below(int bound) {
            seed = seed * 6364136223846793005L + 1442695040888963407L;
            return (int) ((seed >>> 33) % bound);
        }
    }

    private static void due(long run, String call, Object got, Object want) {
        if (!got.equals(want)) {
            wrong++;
            if (wrong < 30) {
                System.out.println("run " + run + ": " + call + " answered " + got + ", due is " + want);
            }
        }
    }

    private interface Call {
        Object answer();
    }

    private static Object told(Call call) {
        try {
            return call.answer();
        } catch (IndexOutOfBoundsException e) {
            THROWN[1]++;
            return e.getClass() == IndexOutOfBoundsException.class ? -2 : "the machine's " + e;
        } catch (IllegalArgumentException e) {
            THROWN[2]++;
            return -3;
        } catch (IllegalStateException e) {
            THROWN[3]++;
            return -4;
        }
    }

    /** Mostly a part that is there, the latest ones more often; sometimes one that is not. */
    private static int pick(Numbers r, int made, boolean wild) {
        if (made == 0 || wild && r.below(25) == 0) {
            return r.below(2) == 0 ? made + r.below(2) : -1 - r.below(2);
        }
        return r.below(3) == 0 ? made - 1 - r.below(Math.min(made, 4)) : r.below(made);
    }

    private static void making(long run, Recorded x, Mill m, Numbers r, int names, boolean wild) {
        int a = pick(r, m.parts.size(), wild);
        int b = pick(r, m.parts.size(), wild);
        int c = pick(r, m.parts.size(), wild);
        int n = wild && r.below(30) == 0 ? (r.below(2) == 0 ? -1 : 10) : r.below(names);
        int s = wild && r.below(30) == 0 ? (r.below(2) == 0 ? -1 : 2) : r.below(2);
        switch (r.below(m.parts.size() < 3 ? 2 : 14)) {
            case 0 -> due(run, "plain " + s, told(() -> x.plain(s)),
                s < 0 || s > 1 ? (Object) (-3) : m.add(s, -1, -1, -1));
            case 1, 2 -> due(run, "name " + n, told(() -> x.name(n)), m.add(2, n, 0, 9));
            case 3, 4, 5 -> due(run, "wheel " + n + " " + a, told(() -> x.wheel(n, a)), m.add(3, n, 0, 9, a));
            case 6, 7, 8 -> due(run, "turn " + a + " " + b, told(() -> x.turn(a, b)), m.add(4, -1, -1, -1, a, b));
            case 9, 10 -> due(run, "tell " + n + " " + a + " " + b, told(() -> x.tell(n, a, b)),
                m.add(5, n, 0, 9, a, b));
            case 11 -> due(run, "axle " + a + " " + b, told(() -> x.axle(a, b)), m.add(6, -1, -1, -1, a, b));
            case 12 -> due(run, "end " + a + " " + s, told(() -> x.end(a, s)), m.add(7, s, 0, 1, a));
            default -> due(run, "either " + a + " " + b + " " + c, told(() -> x.either(a, b, c)),
                m.add(8, -1, -1, -1, a, b, c));
        }
    }

    private static void asking(long run, Recorded x, Mill m, Numbers r) {
        int made = m.parts.size();
        int a = pick(r, made, true);
        int b = pick(r, made, true);
        boolean hasA = a >= 0 && a < made;
        boolean has = hasA && b >= 0 && b < made;
        int w = r.below(10) - 1;
        switch (r.below(11)) {
            case 0 -> due(run, "part " + a + " " + w, told(() -> x.part(a, w)),
                hasA && w >= 0 && w < 7 ? m.part(a)[w] : -2);
            case 1 -> due(run, "type " + a + " " + w, told(() -> x.type(a, w)),
                hasA && w >= 0 && w < 5 ? m.type(a)[w] : -2);
            case 2 -> {
                int length = hasA ? m.type(a)[2] : 0;
                int place = r.below(length + 3) - 1;
                due(run, "code " + a + " " + place, told(() -> x.code(a, place)),
                    place >= 0 && place < length ? m.alone(a)[place] : -2);
            }
            case 3 -> due(run, "count " + w, told(() -> x.count(w)), w >= 0 && w < 6 ? m.count(w) : -2);
            case 4 -> due(run, "same " + a + " " + b, told(() -> x.same(a, b)), !has ? (Object) (-2)
                : m.type(a)[0] == 0 && m.type(b)[0] == 0 && Arrays.equals(m.alone(a), m.alone(b)));
            case 5 -> due(run, "fits " + a + " " + b, told(() -> x.fits(a, b)),
                !has ? (Object) (-2) : m.fits(a, b));
            case 6 -> due(run, "goes " + a + " " + b, told(() -> x.goes(a, b)), !has ? (Object) (-2) : m.goes(a, b));
            case 7 -> due(run, "first " + a, told(() -> x.first(a)), !hasA ? (Object) (-2) : m.first(a));
            case 8 -> due(run, "longest", told(x::longest), m.longest());
            case 9 -> due(run, "mean", told(x::mean), m.mean());
            default -> due(run, "digest", told(x::digest), m.digest());
        }
    }

    /** All pairs at the end, as a turning shows more faults than parts made by chance. */
    private static void atTheEnd(long run, Recorded x, Mill m) {
        int made = m.parts.size();
        for (int a = 0; a < made; a++) {
            int part = a;
            int[] type = m.type(a);
            FAULTS[type[0]]++;
            SORTS_TYPED[m.parts.get(a).sort()] += type[0] == 0 ? 1 : 0;
            for (int w = 0; w < 5; w++) {
                int what = w;
                due(run, "at the end type " + a + " " + w, told(() -> x.type(part, what)), type[w]);
            }
            for (int b = 0; b < made; b++) {
                int other = b;
                int fault = m.goes(a, b);
                GOES[fault]++;
                due(run, "at the end goes " + a + " " + b, told(() -> x.goes(part, other)), fault);
                due(run, "at the end fits " + a + " " + b, told(() -> x.fits(part, other)), m.fits(a, b));
            }
        }
        due(run, "at the end digest", told(x::digest), m.digest());
    }

    private static void run(long seed) {
        Numbers r = new Numbers(seed);
        Recorded x = new Recorded();
        Mill m = new Mill();
        boolean wild = r.below(3) == 0;
        int names = 1 + r.below(wild ? 10 : 4);
        int calls = 60 + r.below(200);
        for (int i = 0; i < calls; i++) {
            int kind = r.below(12);
            if (kind < 6) {
                making(seed, x, m, r, names, wild);
            } else if (kind == 6 && r.below(m.parts.size() == 40 ? 1 : 3) == 0) {
                int last = m.parts.size() - 1;
                due(seed, "undo", told(x::undo), last < 0 ? -4 : last);
                if (last >= 0) {
                    m.parts.remove(last);
                }
            } else {
                asking(seed, x, m, r);
            }
        }
        atTheEnd(seed, x, m);
    }

    /** Around each name that is told, wheels of the other names: what is its own is what shows here. */
    private static void closedRun(long seed) {
        Numbers r = new Numbers(seed ^ 0x5DEECE66DL);
        Recorded x = new Recorded();
        Mill m = new Mill();
        int names = 2 + r.below(3);
        for (int n = 0; n < names; n++) {
            x.name(n);
            m.add(2, n, 0, 9);
        }
        int body = 6 + r.below(18);
        for (int i = 0; i < body; i++) {
            making(seed, x, m, r, names, false);
        }
        for (int n = 0; n < names; n++) {
            int name = n;
            for (int k = 0; k < 3; k++) {
                int a = pick(r, m.parts.size(), false);
                due(seed, "wheel " + n + " " + a, told(() -> x.wheel(name, a)), m.add(3, n, 0, 9, a));
            }
            int last = m.parts.size() - 1;
            int b = pick(r, m.parts.size(), false);
            due(seed, "tell " + n, told(() -> x.tell(name, b, last)), m.add(5, n, 0, 9, b, last));
        }
        atTheEnd(seed, x, m);
    }

    // ---- runs with parts that are grown from the whole to the leaves, so that most names have types

    private static final class Grower {
        final Recorded x = new Recorded();
        final Mill m = new Mill();
        final Numbers r;
        final long seed;
        final int names;
        final boolean doubling;

        Grower(long seed) {
            this.seed = seed;
            r = new Numbers(seed ^ 0x1B873593L);
            names = 2 + r.below(5);
            doubling = r.below(2) == 0;
        }

        /** A leaf is made once and used again, as there are only 40 parts. */
        int once(int sort, int label) {
            for (int i = 0; i < m.parts.size(); i++) {
                if (m.parts.get(i).sort() == sort && m.parts.get(i).label() == label) {
                    return i;
                }
            }
            if (sort == 2) {
                due(seed, "name " + label, told(() -> x.name(label)), m.add(2, label, 0, 9));
            } else {
                due(seed, "plain " + sort, told(() -> x.plain(sort)), m.add(sort, -1, -1, -1));
            }
            return m.parts.size() - 1;
        }

        int leaf(List<Integer> scope) {
            if (scope.isEmpty() || r.below(6) == 0) {
                return once(r.below(2), -1);
            }
            return once(2, scope.get(r.below(3) == 0 ? scope.size() - 1 : r.below(scope.size())));
        }

        int made(int want, Object got) {
            due(seed, "grown part", got, want);
            return want >= 0 ? want : m.parts.size() - 1;
        }

        List<Integer> and(List<Integer> scope, int name) {
            List<Integer> more = new ArrayList<>(scope);
            more.add(name);
            return more;
        }

        /** A wheel that makes an axle of twice what turns it: types that get too long soon. */
        int doubler(int name) {
            int n = once(2, name);
            int a = made(m.add(6, -1, -1, -1, n, n), told(() -> x.axle(n, n)));
            return made(m.add(3, name, 0, 9, a), told(() -> x.wheel(name, a)));
        }

        int grow(int budget, List<Integer> scope) {
            if (budget <= 1 || m.parts.size() >= 38) {
                return leaf(scope);
            }
            int name = r.below(names);
            int half = 1 + r.below(budget - 1);
            switch (r.below(12)) {
                case 0, 1, 2 -> {
                    int a = grow(budget - 1, and(scope, name));
                    return made(m.add(3, name, 0, 9, a), told(() -> x.wheel(name, a)));
                }
                case 3, 4, 5 -> {
                    int a = grow(half, scope);
                    int b = grow(budget - half, scope);
                    return made(m.add(4, -1, -1, -1, a, b), told(() -> x.turn(a, b)));
                }
                case 6, 7, 8 -> {
                    int a = doubling && r.below(2) == 0 ? doubler(name) : grow(half, scope);
                    int b = grow(budget - half, and(scope, name));
                    return made(m.add(5, name, 0, 9, a, b), told(() -> x.tell(name, a, b)));
                }
                case 9 -> {
                    int a = grow(half, scope);
                    int b = grow(budget - half, scope);
                    return made(m.add(6, -1, -1, -1, a, b), told(() -> x.axle(a, b)));
                }
                case 10 -> {
                    int side = r.below(2);
                    int a = grow(budget - 1, scope);
                    return made(m.add(7, side, 0, 1, a), told(() -> x.end(a, side)));
                }
                default -> {
                    int f = leaf(scope);
                    int a = grow(half, scope);
                    int b = grow(budget - half, scope);
                    return made(m.add(8, -1, -1, -1, f, a, b), told(() -> x.either(f, a, b)));
                }
            }
        }

        /** Few names, told as doublers and turned by one another: long types, and long ones within them. */
        int growLong(int budget, List<Integer> scope) {
            if (budget <= 1 || m.parts.size() >= 38) {
                return leaf(scope);
            }
            int name = r.below(4);
            int half = 1 + r.below(budget - 1);
            int kind = scope.isEmpty() ? 9 : r.below(10);
            if (kind < 4) {
                int a = leaf(scope);
                int b = growLong(budget - 1, scope);
                return made(m.add(4, -1, -1, -1, a, b), told(() -> x.turn(a, b)));
            } else if (kind < 6) {
                int a = growLong(half, scope);
                int b = growLong(budget - half, scope);
                return made(m.add(6, -1, -1, -1, a, b), told(() -> x.axle(a, b)));
            } else if (kind < 8) {
                int a = growLong(budget - 1, and(scope, name));
                return made(m.add(3, name, 0, 9, a), told(() -> x.wheel(name, a)));
            }
            int a = r.below(2) == 0 ? doubler(name) : growLong(half, scope);
            int b = growLong(budget - half, and(scope, name));
            return made(m.add(5, name, 0, 9, a, b), told(() -> x.tell(name, a, b)));
        }

        void all() {
            while (m.parts.size() < 30) {
                if (r.below(2) == 0) {
                    grow(4 + r.below(22), List.of());
                } else {
                    growLong(10 + r.below(30), List.of());
                }
            }
            atTheEnd(seed, x, m);
        }
    }

    public static void main(String[] args) {
        long runs = args.length > 0 ? Long.parseLong(args[0]) : 1500;
        long from = args.length > 1 ? Long.parseLong(args[1]) : 0;
        int left = 0;
        for (long seed = from; seed < from + runs; seed++) {
            try {
                run(seed);
                closedRun(seed);
                new Grower(seed).all();
            } catch (TooGreat e) {
                left++;
            }
        }
        System.out.println(runs + " runs, " + left + " left out, faults " + Arrays.toString(FAULTS) + ", of turnings " + Arrays.toString(GOES)
            + ", typed of each sort " + Arrays.toString(SORTS_TYPED) + ", thrown " + Arrays.toString(THROWN));
        for (int i = 0; i < 5; i++) {
            if (FAULTS[i] == 0 || GOES[i] == 0) {
                System.out.println("no part had the fault " + i);
                wrong++;
            }
        }
        if (wrong != 0) {
            System.out.println(wrong + " answers are not as due");
            System.exit(1);
        }
    }
}
