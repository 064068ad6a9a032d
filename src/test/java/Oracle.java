import java.util.ArrayList;
import java.util.LinkedHashSet;
import java.util.List;
import java.util.Objects;
import java.util.Set;
import java.util.TreeMap;
import java.util.TreeSet;

/** The document once more, word by word and without any thrift, to compare the answers of long runs with. */
final class Oracle {
    static final class Type {
        int number;
        int flags;
        int pack;
        Integer above;
        TreeSet<Integer> faces = new TreeSet<>();
        int host;

        boolean is(int flag) {
            return (flags & flag) != 0;
        }

        Type copy() {
            Type t = new Type();
            t.number = number;
            t.flags = flags;
            t.pack = pack;
            t.above = above;
            t.faces = new TreeSet<>(faces);
            t.host = host;
            return t;
        }
    }

    static final class Member {
        int number;
        int type;
        boolean method;
        int sign;
        int access;
        int flags;
        boolean gone;

        boolean is(int flag) {
            return (flags & flag) != 0;
        }

        Member copy() {
            Member m = new Member();
            m.number = number;
            m.type = type;
            m.method = method;
            m.sign = sign;
            m.access = access;
            m.flags = flags;
            m.gone = gone;
            return m;
        }
    }

    /** A VERDICT: its SORT, and the TYPE or the MEMBER that is to blame. */
    static final class Verdict {
        final int sort;
        final Integer type;
        final Member member;

        Verdict(int sort, Integer type, Member member) {
            this.sort = sort;
            this.type = type;
            this.member = member;
        }

        int told() {
            return 64 * sort + (type != null ? type : 16 + member.number);
        }

        boolean good() {
            return sort == 0;
        }

        boolean alike(Verdict other) {
            if (sort != other.sort || !Objects.equals(type, other.type)) {
                return false;
            }
            return type != null || member.type == other.member.type && member.method == other.member.method
                    && member.sign == other.member.sign;
        }
    }

    static final class Reference {
        int kind;
        int d;
        int r;
        int sign;
    }

    static final class Build {
        TreeMap<Integer, Type> types = new TreeMap<>();
        List<Member> members = new ArrayList<>();

        Build() {
            Type root = new Type();
            root.flags = 1;
            types.put(0, root);
        }

        Build copy() {
            Build b = new Build();
            types.forEach((n, t) -> b.types.put(n, t.copy()));
            members.forEach(m -> b.members.add(m.copy()));
            return b;
        }

        Member has(int t, boolean method, int sign) {
            for (Member m : members) {
                if (!m.gone && m.type == t && m.method == method && m.sign == sign) {
                    return m;
                }
            }
            return null;
        }

        Verdict load(int t, Set<Integer> open) {
            if (!types.containsKey(t)) {
                return new Verdict(1, t, null);
            }
            if (open.contains(t)) {
                return new Verdict(2, t, null);
            }
            Type type = types.get(t);
            Set<Integer> inner = new TreeSet<>(open);
            inner.add(t);
            List<Integer> parents = new ArrayList<>();
            if (type.above != null) {
                parents.add(type.above);
            }
            parents.addAll(type.faces);
            for (int p : parents) {
                Verdict v = load(p, inner);
                if (!v.good()) {
                    return v;
                }
            }
            boolean changed = type.above != null && (types.get(type.above).is(2) || types.get(type.above).is(8));
            for (int f : type.faces) {
                changed |= !types.get(f).is(2);
            }
            changed |= type.is(2) && type.above != 0;
            return new Verdict(changed ? 3 : 0, t, null);
        }

        List<Integer> above(int t) {
            List<Integer> list = new ArrayList<>();
            for (Integer u = t; u != null; u = types.get(u).above) {
                list.add(u);
            }
            return list;
        }

        Set<Integer> faces(int t) {
            Set<Integer> set = new LinkedHashSet<>();
            for (int u : above(t)) {
                for (int f : types.get(u).faces) {
                    set.add(f);
                    set.addAll(faces(f));
                }
            }
            return set;
        }

        boolean under(int t, int u) {
            return above(t).contains(u) || faces(t).contains(u);
        }

        int nest(int t) {
            int h = types.get(t).host;
            Type host = types.get(h);
            if (host == null || host.pack != types.get(t).pack || host.host != h) {
                return t;
            }
            return h;
        }

        boolean access(Member m, int r, int d) {
            int c = m.type;
            boolean near = types.get(c).pack == types.get(d).pack;
            if (m.access == 3) {
                return true;
            }
            if (m.access == 2 && above(d).contains(c) && (m.is(1) || under(r, d) || under(d, r))) {
                return true;
            }
            if ((m.access == 2 || m.access == 1) && near) {
                return true;
            }
            return m.access == 0 && nest(c) == nest(d);
        }

        Member findField(int t, int sign) {
            Member m = has(t, false, sign);
            if (m != null) {
                return m;
            }
            for (int f : types.get(t).faces) {
                m = findField(f, sign);
                if (m != null) {
                    return m;
                }
            }
            Integer s = types.get(t).above;
            return s == null ? null : findField(s, sign);
        }

        List<Member> ofFaces(int t, int sign) {
            List<Member> list = new ArrayList<>();
            for (int f : faces(t)) {
                Member m = has(f, true, sign);
                if (m != null && m.access != 0 && !m.is(1)) {
                    list.add(m);
                }
            }
            return list;
        }

        List<Member> mostSpecificWithBody(int t, int sign) {
            List<Member> all = ofFaces(t, sign);
            List<Member> list = new ArrayList<>();
            for (Member m : all) {
                boolean most = true;
                for (Member n : all) {
                    most &= n == m || !under(n.type, m.type);
                }
                if (most && !m.is(2)) {
                    list.add(m);
                }
            }
            return list;
        }

        Member findMethod(int r, int sign) {
            if (types.get(r).is(2)) {
                Member own = has(r, true, sign);
                if (own != null) {
                    return own;
                }
                Member root = has(0, true, sign);
                if (root != null && root.access == 3 && !root.is(1)) {
                    return root;
                }
            } else {
                for (int t : above(r)) {
                    Member m = has(t, true, sign);
                    if (m != null) {
                        return m;
                    }
                }
            }
            List<Member> bodies = mostSpecificWithBody(r, sign);
            if (bodies.size() == 1) {
                return bodies.get(0);
            }
            Member least = null;
            for (Member m : ofFaces(r, sign)) {
                if (least == null || m.number < least.number) {
                    least = m;
                }
            }
            return least;
        }

        Verdict resolve(Reference f) {
            Verdict v = load(f.d, Set.of());
            if (!v.good()) {
                return v;
            }
            v = load(f.r, Set.of());
            if (!v.good()) {
                return v;
            }
            Type r = types.get(f.r);
            if (!r.is(1) && r.pack != types.get(f.d).pack) {
                return new Verdict(4, f.r, null);
            }
            if (f.kind == 8) {
                return new Verdict(0, f.r, null);
            }
            Member m;
            if (f.kind < 4) {
                m = findField(f.r, f.sign);
                if (m == null) {
                    return new Verdict(5, f.r, null);
                }
            } else {
                boolean fits = !r.is(2) && (f.kind == 4 || f.kind == 5 || f.kind == 6)
                        || r.is(2) && (f.kind == 5 || f.kind == 6) || r.is(2) && f.kind == 7;
                if (!fits) {
                    return new Verdict(3, f.r, null);
                }
                m = findMethod(f.r, f.sign);
                if (m == null) {
                    return new Verdict(6, f.r, null);
                }
            }
            return check(f, m);
        }

        Verdict check(Reference f, Member m) {
            if (!access(m, f.r, f.d)) {
                return new Verdict(4, null, m);
            }
            boolean wantsStatic = f.kind == 2 || f.kind == 3 || f.kind == 6;
            if (m.is(1) != wantsStatic) {
                return new Verdict(3, null, m);
            }
            if ((f.kind == 1 || f.kind == 3) && m.is(4) && f.d != m.type) {
                return new Verdict(4, null, m);
            }
            if (f.kind == 5 && !under(f.d, f.r)) {
                return new Verdict(3, f.r, null);
            }
            if (f.kind == 5 && m.is(2)) {
                return new Verdict(7, null, m);
            }
            return new Verdict(0, null, m);
        }

        /** null: there is nothing to SELECT for. */
        Verdict select(Reference f, int c) {
            if (f.kind != 4 && f.kind != 7) {
                return null;
            }
            Verdict v = resolve(f);
            if (!v.good()) {
                return null;
            }
            if (!load(c, Set.of()).good() || types.get(c).is(2) || types.get(c).is(4) || !under(c, f.r)) {
                return new Verdict(8, c, null);
            }
            Member s = v.member.access == 0 ? v.member : overrider(v.member, c);
            if (s == null) {
                List<Member> bodies = mostSpecificWithBody(c, f.sign);
                if (bodies.size() != 1) {
                    return new Verdict(bodies.isEmpty() ? 7 : 3, c, null);
                }
                s = bodies.get(0);
            }
            if (s.is(2)) {
                return new Verdict(7, null, s);
            }
            if (f.kind == 7 && s.access != 3 && s.access != 0) {
                return new Verdict(4, null, s);
            }
            return new Verdict(0, null, s);
        }

        Member overrider(Member m, int c) {
            for (int t : above(c)) {
                Member n = has(t, true, m.sign);
                if (n == null || n.access == 0 || n.is(1)) {
                    continue;
                }
                boolean overrides = m.access == 3 || m.access == 2
                        || m.access == 1 && types.get(n.type).pack == types.get(m.type).pack;
                if (n == m || overrides) {
                    return n;
                }
            }
            return null;
        }
    }

    private final Build[] builds = {new Build(), new Build()};
    private final List<Reference> references = new ArrayList<>();
    private int written = 0;

    private static boolean in(int number, int from, int to) {
        return from <= number && number <= to;
    }

    boolean type(int t, int flags, int pack, int above, int faces) {
        if (!in(t, 1, 11) || !in(flags, 0, 15) || !in(pack, 0, 3) || !in(above, 0, 11) || !in(faces, 0, 4095)) {
            return false;
        }
        Type type = new Type();
        type.number = t;
        type.flags = flags;
        type.pack = pack;
        type.above = above;
        type.host = t;
        for (int u = 0; u < 12; u++) {
            if ((faces >> u & 1) == 1) {
                type.faces.add(u);
            }
        }
        builds[written].types.put(t, type);
        return true;
    }

    boolean nest(int t, int h) {
        if (!in(t, 1, 11) || !in(h, 0, 11) || !builds[written].types.containsKey(t)) {
            return false;
        }
        builds[written].types.get(t).host = h;
        return true;
    }

    boolean drop(int t) {
        if (!in(t, 1, 11) || builds[written].types.remove(t) == null) {
            return false;
        }
        for (Member m : builds[written].members) {
            m.gone |= m.type == t;
        }
        return true;
    }

    int member(int t, boolean method, int sign, int access, int flags) {
        Build b = builds[written];
        if (!in(t, 0, 11) || !in(sign, 0, 14) || !in(access, 0, 3) || !in(flags, 0, 7)
                || !b.types.containsKey(t) || b.has(t, method, sign) != null) {
            return -1;
        }
        if (b.members.size() == 30) {
            return -3;
        }
        Member m = new Member();
        m.number = b.members.size();
        m.type = t;
        m.method = method;
        m.sign = sign;
        m.access = access;
        m.flags = flags;
        b.members.add(m);
        return m.number;
    }

    boolean remake(int m, int access, int flags) {
        List<Member> members = builds[written].members;
        if (!in(m, 0, members.size() - 1) || !in(access, 0, 3) || !in(flags, 0, 7) || members.get(m).gone) {
            return false;
        }
        members.get(m).access = access;
        members.get(m).flags = flags;
        return true;
    }

    boolean remove(int m) {
        List<Member> members = builds[written].members;
        if (!in(m, 0, members.size() - 1) || members.get(m).gone) {
            return false;
        }
        members.get(m).gone = true;
        return true;
    }

    int branch() {
        builds[1] = builds[0].copy();
        written = 1;
        return builds[1].types.size();
    }

    boolean write(int build) {
        if (!in(build, 0, 1)) {
            return false;
        }
        written = build;
        return true;
    }

    int refer(int kind, int d, int r, int sign) {
        if (!in(kind, 0, 8) || !in(d, 0, 11) || !in(r, 0, 11) || !in(sign, 0, 14)) {
            return -1;
        }
        if (references.size() == 16) {
            return -3;
        }
        Reference f = new Reference();
        f.kind = kind;
        f.d = d;
        f.r = r;
        f.sign = sign;
        references.add(f);
        return references.size() - 1;
    }

    int forget() {
        int n = references.size();
        references.clear();
        return n;
    }

    int load(int build, int t) {
        return in(build, 0, 1) && in(t, 0, 11) ? builds[build].load(t, Set.of()).told() : -1;
    }

    int resolve(int build, int i) {
        return in(build, 0, 1) && in(i, 0, references.size() - 1)
                ? builds[build].resolve(references.get(i)).told() : -1;
    }

    int select(int build, int i, int c) {
        if (!in(build, 0, 1) || !in(i, 0, references.size() - 1) || !in(c, 0, 11)) {
            return -1;
        }
        Verdict v = builds[build].select(references.get(i), c);
        return v == null ? -2 : v.told();
    }

    int compare(int i) {
        if (!in(i, 0, references.size() - 1)) {
            return -1;
        }
        Verdict a = builds[0].resolve(references.get(i));
        Verdict b = builds[1].resolve(references.get(i));
        if (a.alike(b)) {
            return 0;
        }
        return a.good() ? b.good() ? 3 : 1 : b.good() ? 2 : 4;
    }

    int receivers(int i, int what) {
        if (!in(i, 0, references.size() - 1) || !in(what, 0, 3)) {
            return -1;
        }
        int n = 0;
        for (int c = 0; c < 12; c++) {
            Verdict a = builds[0].select(references.get(i), c);
            Verdict b = builds[1].select(references.get(i), c);
            boolean was = a != null && a.good();
            boolean is = b != null && b.good();
            boolean[] holds = {was, is, was && !is, was && is && !a.alike(b)};
            n += holds[what] ? 1 : 0;
        }
        return n;
    }

    boolean isUnder(int build, int t, int u) {
        return in(build, 0, 1) && in(t, 0, 11) && in(u, 0, 11) && builds[build].load(t, Set.of()).good()
                && builds[build].load(u, Set.of()).good() && builds[build].under(t, u);
    }

    int count(int build, int what) {
        if (!in(build, 0, 1)) {
            return -1;
        }
        Build b = builds[build];
        switch (what) {
            case 0:
                return b.types.size();
            case 1:
                return (int) b.members.stream().filter(m -> !m.gone).count();
            case 2:
                return b.members.size();
            case 3:
                return (int) references.stream().filter(f -> b.resolve(f).good()).count();
            case 4:
                return (int) b.types.keySet().stream().filter(t -> b.load(t, Set.of()).good()).count();
            case 5:
                return (int) b.members.stream().filter(m -> !m.gone && m.method && m.is(2)).count();
            case 6:
                int set = 0;
                for (int t : b.types.keySet()) {
                    for (int u : b.types.keySet()) {
                        set |= t != u && b.nest(t) == b.nest(u) ? 1 << t : 0;
                    }
                }
                return set;
            default:
                return -1;
        }
    }
}
