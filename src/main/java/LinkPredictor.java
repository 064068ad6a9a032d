/**
 * What becomes of the symbolic references of clients when a library gets a new build.
 * The terms in capitals are those of the document (DOC.md).
 */
public final class LinkPredictor {
    public static final int REFUSED = -1;
    public static final int NONE = -2;
    public static final int FULL = -3;

    private static final int OLD = 0;
    private static final int NEW = 1;
    private static final int BUILDS = 2;

    private static final int TYPES = 12;
    private static final int ROOT = 0;
    private static final int TYPE_FLAGS = 16;
    private static final int PACKAGES = 4;
    private static final int FACE_SETS = 4096;

    private static final int PUBLIC_TYPE = 1;
    private static final int INTERFACE_TYPE = 2;
    private static final int ABSTRACT_TYPE = 4;
    private static final int FINAL_TYPE = 8;

    private static final int MEMBERS = 30;
    private static final int SIGNS = 15;
    private static final int ACCESSES = 4;
    private static final int MEMBER_FLAGS = 8;

    private static final int PRIVATE = 0;
    private static final int PACKAGE = 1;
    private static final int PROTECTED = 2;
    private static final int PUBLIC = 3;

    private static final int STATIC = 1;
    private static final int ABSTRACT = 2;
    private static final int FINAL = 4;

    private static final int REFERENCES = 16;
    private static final int KINDS = 9;
    private static final int PUT = 1;
    private static final int GET_STATIC = 2;
    private static final int PUT_STATIC = 3;
    private static final int VIRTUAL = 4;
    private static final int SPECIAL = 5;
    private static final int CALL_STATIC = 6;
    private static final int FACE = 7;
    private static final int TYPE_USE = 8;

    // A VERDICT is one of these with what is to blame added: a TYPE's number, or MEMBER and a number.
    private static final int SORT = 64;
    private static final int MISSING = SORT;
    private static final int CIRCULAR = 2 * SORT;
    private static final int CHANGED = 3 * SORT;
    private static final int BARRED = 4 * SORT;
    private static final int NO_FIELD = 5 * SORT;
    private static final int NO_METHOD = 6 * SORT;
    private static final int CUT = 7 * SORT;
    private static final int UNFIT = 8 * SORT;
    private static final int MEMBER = 16;

    private static final int ALIKE = 0;
    private static final int BREAKS = 1;
    private static final int HEALS = 2;
    private static final int DIFFERS_GOOD = 3;
    private static final int DIFFERS_BAD = 4;

    private final Build[] builds;
    private final Reference[] references;
    private int referenceCount;
    private int written;

    public LinkPredictor() {
        builds = new Build[] {new Build(), new Build()};
        references = new Reference[REFERENCES];
        for (int i = 0; i < REFERENCES; i++) {
            references[i] = new Reference();
        }
        referenceCount = 0;
        written = OLD;
    }

    public boolean type(int t, int flags, int pack, int above, int faces) {
        if (!isOrdinaryType(t) || !isWithin(flags, TYPE_FLAGS) || !isWithin(pack, PACKAGES)
                || !isWithin(above, TYPES) || !isWithin(faces, FACE_SETS)) {
            return false;
        }
        builds[written].types.define(t, flags, pack, above, faces);
        return true;
    }

    public boolean nest(int t, int h) {
        if (!isOrdinaryType(t) || !isWithin(h, TYPES)) {
            return false;
        }
        return builds[written].types.putHost(t, h);
    }

    public boolean drop(int t) {
        if (!isOrdinaryType(t)) {
            return false;
        }
        return builds[written].discardType(t);
    }

    public int member(int t, boolean method, int sign, int access, int flags) {
        if (!isWithin(t, TYPES) || !isWithin(sign, SIGNS) || !isWithin(access, ACCESSES)
                || !isWithin(flags, MEMBER_FLAGS)) {
            return REFUSED;
        }
        return builds[written].addMember(t, method, sign, access, flags);
    }

    public boolean remake(int m, int access, int flags) {
        if (!isWithin(access, ACCESSES) || !isWithin(flags, MEMBER_FLAGS)) {
            return false;
        }
        return builds[written].members.change(m, access, flags);
    }

    public boolean remove(int m) {
        return builds[written].members.discard(m);
    }

    public int branch() {
        builds[NEW].becomeAs(builds[OLD]);
        written = NEW;
        return builds[NEW].types.countThere();
    }

    public boolean write(int build) {
        if (!isWithin(build, BUILDS)) {
            return false;
        }
        written = build;
        return true;
    }

    public int refer(int kind, int d, int r, int sign) {
        if (!isWithin(kind, KINDS) || !isWithin(d, TYPES) || !isWithin(r, TYPES) || !isWithin(sign, SIGNS)) {
            return REFUSED;
        }
        if (referenceCount >= REFERENCES) {
            return FULL;
        }
        references[referenceCount].put(kind, d, r, sign);
        referenceCount++;
        return referenceCount - 1;
    }

    public int forget() {
        int before = referenceCount;
        referenceCount = 0;
        return before;
    }

    public int load(int build, int t) {
        if (!isWithin(build, BUILDS) || !isWithin(t, TYPES)) {
            return REFUSED;
        }
        return builds[build].types.loading(t);
    }

    public int resolve(int build, int i) {
        if (!isWithin(build, BUILDS) || !isWithin(i, referenceCount)) {
            return REFUSED;
        }
        return builds[build].resolution(references[i]);
    }

    public int select(int build, int i, int c) {
        if (!isWithin(build, BUILDS) || !isWithin(i, referenceCount) || !isWithin(c, TYPES)) {
            return REFUSED;
        }
        Reference f = references[i];
        return builds[build].selection(f, builds[build].resolution(f), c);
    }

    public int compare(int i) {
        if (!isWithin(i, referenceCount)) {
            return REFUSED;
        }
        int was = builds[OLD].resolution(references[i]);
        int is = builds[NEW].resolution(references[i]);
        if (areAlike(was, is)) {
            return ALIKE;
        }
        if (isGood(was)) {
            return isGood(is) ? DIFFERS_GOOD : BREAKS;
        }
        return isGood(is) ? HEALS : DIFFERS_BAD;
    }

    public int receivers(int i, int what) {
        if (!isWithin(i, referenceCount) || !isWithin(what, 4)) {
            return REFUSED;
        }
        Reference f = references[i];
        int resolvedOld = builds[OLD].resolution(f);
        int resolvedNew = builds[NEW].resolution(f);
        int sum = 0;
        for (int c = 0; c < TYPES; c++) {
            int was = builds[OLD].selection(f, resolvedOld, c);
            int is = builds[NEW].selection(f, resolvedNew, c);
            sum += isSuchReceiver(what, was, is) ? 1 : 0;
        }
        return sum;
    }

    public boolean isUnder(int build, int t, int u) {
        if (!isWithin(build, BUILDS) || !isWithin(t, TYPES) || !isWithin(u, TYPES)) {
            return false;
        }
        Hierarchy types = builds[build].types;
        return isGood(types.loading(t)) && isGood(types.loading(u)) && types.liesUnder(t, u);
    }

    public int count(int build, int what) {
        if (!isWithin(build, BUILDS)) {
            return REFUSED;
        }
        Build b = builds[build];
        switch (what) {
            case 0:
                return b.types.countThere();
            case 1:
                return b.members.countPresent();
            case 2:
                return b.members.countAll();
            case 3:
                return countGoodReferences(b);
            case 4:
                return b.types.countLoaded();
            case 5:
                return b.members.countAbstractMethods();
            case 6:
                return b.types.nestSharers();
            default:
                return REFUSED;
        }
    }

    private int countGoodReferences(Build b) {
        int sum = 0;
        for (int i = 0; i < referenceCount; i++) {
            sum += isGood(b.resolution(references[i])) ? 1 : 0;
        }
        return sum;
    }

    private boolean isSuchReceiver(int what, int was, int is) {
        switch (what) {
            case 0:
                return isGood(was);
            case 1:
                return isGood(is);
            case 2:
                return isGood(was) && !isGood(is);
            default:
                return isGood(was) && isGood(is) && !areAlike(was, is);
        }
    }

    private boolean areAlike(int was, int is) {
        if (was / SORT != is / SORT) {
            return false;
        }
        int blamedOld = was % SORT;
        int blamedNew = is % SORT;
        if (blamedOld < MEMBER || blamedNew < MEMBER) {
            return blamedOld == blamedNew;
        }
        return builds[OLD].members.isSameThing(blamedOld - MEMBER, builds[NEW].members, blamedNew - MEMBER);
    }

    private static boolean isWithin(int number, int bound) {
        return number >= 0 && number < bound;
    }

    private static boolean isOrdinaryType(int t) {
        return t != ROOT && isWithin(t, TYPES);
    }

    private static boolean isGood(int verdict) {
        return isWithin(verdict, SORT);
    }

    private static int bit(int t) {
        return 1 << t;
    }

    private static boolean contains(int set, int t) {
        return (set & 1 << t) != 0;
    }

    /** A REFERENCE; its place is made once and used again after it was forgotten. */
    private static final class Reference {
        private int kind;
        private int holder;
        private int way;
        private int sign;

        void put(int newKind, int newHolder, int newWay, int newSign) {
            kind = newKind;
            holder = newHolder;
            way = newWay;
            sign = newSign;
        }

        boolean isOfField() {
            return kind <= PUT_STATIC;
        }

        boolean isPut() {
            return kind == PUT || kind == PUT_STATIC;
        }

        boolean needsStatic() {
            return kind == GET_STATIC || kind == PUT_STATIC || kind == CALL_STATIC;
        }

        boolean hasReceiver() {
            return kind == VIRTUAL || kind == FACE;
        }
    }

    /** The TYPES of a BUILD. What LOADING tells of them is found anew with every change of a TYPE. */
    private static final class Hierarchy {
        private static final int NO_TYPE = -1;

        private int there;
        private final int[] flags = new int[TYPES];
        private final int[] packs = new int[TYPES];
        private final int[] supers = new int[TYPES];
        private final int[] directFaces = new int[TYPES];
        private final int[] hosts = new int[TYPES];

        private final int[] verdicts = new int[TYPES];
        private int settled;
        // These two sets stand only for TYPES that are settled.
        private final int[] aboves = new int[TYPES];
        private final int[] allFaces = new int[TYPES];

        Hierarchy() {
            there = bit(ROOT);
            flags[ROOT] = PUBLIC_TYPE;
            supers[ROOT] = NO_TYPE;
            settle();
        }

        void define(int t, int newFlags, int pack, int above, int faces) {
            there |= bit(t);
            flags[t] = newFlags;
            packs[t] = pack;
            supers[t] = above;
            directFaces[t] = faces;
            hosts[t] = t;
            settle();
        }

        boolean putHost(int t, int h) {
            if (!isThere(t)) {
                return false;
            }
            hosts[t] = h;
            return true;
        }

        boolean takeAway(int t) {
            if (!isThere(t)) {
                return false;
            }
            there &= ~bit(t);
            settle();
            return true;
        }

        void becomeAs(Hierarchy other) {
            there = other.there;
            System.arraycopy(other.flags, 0, flags, 0, TYPES);
            System.arraycopy(other.packs, 0, packs, 0, TYPES);
            System.arraycopy(other.supers, 0, supers, 0, TYPES);
            System.arraycopy(other.directFaces, 0, directFaces, 0, TYPES);
            System.arraycopy(other.hosts, 0, hosts, 0, TYPES);
            settle();
        }

        boolean isThere(int t) {
            return contains(there, t);
        }

        boolean isInterface(int t) {
            return (flags[t] & INTERFACE_TYPE) != 0;
        }

        boolean canBeMade(int t) {
            return (flags[t] & (INTERFACE_TYPE | ABSTRACT_TYPE)) == 0;
        }

        int superOf(int t) {
            return supers[t];
        }

        int directFacesOf(int t) {
            return directFaces[t];
        }

        int facesOf(int t) {
            return allFaces[t];
        }

        int loading(int t) {
            return verdicts[t];
        }

        int reaching(int t, int from) {
            if (!isGood(verdicts[t])) {
                return verdicts[t];
            }
            boolean isOpen = (flags[t] & PUBLIC_TYPE) != 0 || isSamePackage(t, from);
            return isOpen ? t : BARRED + t;
        }

        boolean isSamePackage(int t, int u) {
            return packs[t] == packs[u];
        }

        boolean hasAbove(int t, int u) {
            return contains(aboves[t], u);
        }

        boolean liesUnder(int t, int u) {
            return contains(aboves[t] | allFaces[t], u);
        }

        /** Those of a set of INTERFACES under which no other one of the set lies. */
        int mostSpecificOf(int set) {
            int covered = 0;
            for (int t = 0; t < TYPES; t++) {
                covered |= contains(set, t) ? allFaces[t] : 0;
            }
            return set & ~covered;
        }

        int nestOf(int t) {
            int h = hosts[t];
            return isThere(h) && isSamePackage(h, t) && hosts[h] == h ? h : t;
        }

        int countThere() {
            return Integer.bitCount(there);
        }

        int countLoaded() {
            return Integer.bitCount(settled);
        }

        int nestSharers() {
            int sharers = 0;
            for (int t = 0; t < TYPES; t++) {
                for (int u = 0; u < t; u++) {
                    if (isThere(t) && isThere(u) && nestOf(t) == nestOf(u)) {
                        sharers |= bit(t) | bit(u);
                    }
                }
            }
            return sharers;
        }

        private void settle() {
            settled = 0;
            for (int t = 0; t < TYPES; t++) {
                verdicts[t] = loadInside(t, 0);
            }
        }

        // A settled TYPE has no way to itself, so it is well whichever TYPES are open.
        // Every level opens one TYPE more: no more than TYPES levels deep.
        private int loadInside(int t, int open) {
            if (!isThere(t)) {
                return MISSING + t;
            }
            if (contains(open, t)) {
                return CIRCULAR + t;
            }
            if (contains(settled, t)) {
                return t;
            }
            int verdict = loadParents(t, open | bit(t));
            if (!isGood(verdict)) {
                return verdict;
            }
            if (hasWrongParents(t)) {
                return CHANGED + t;
            }
            gatherSets(t);
            settled |= bit(t);
            return t;
        }

        private int loadParents(int t, int open) {
            if (supers[t] != NO_TYPE) {
                int verdict = loadInside(supers[t], open);
                if (!isGood(verdict)) {
                    return verdict;
                }
            }
            for (int u = 0; u < TYPES; u++) {
                if (contains(directFaces[t], u)) {
                    int verdict = loadInside(u, open);
                    if (!isGood(verdict)) {
                        return verdict;
                    }
                }
            }
            return t;
        }

        private boolean hasWrongParents(int t) {
            int s = supers[t];
            if (s != NO_TYPE && (flags[s] & (INTERFACE_TYPE | FINAL_TYPE)) != 0) {
                return true;
            }
            if (isInterface(t) && s != ROOT) {
                return true;
            }
            for (int u = 0; u < TYPES; u++) {
                if (contains(directFaces[t], u) && !isInterface(u)) {
                    return true;
                }
            }
            return false;
        }

        private void gatherSets(int t) {
            int s = supers[t];
            aboves[t] = s == NO_TYPE ? bit(t) : bit(t) | aboves[s];
            int faces = s == NO_TYPE ? directFaces[t] : directFaces[t] | allFaces[s];
            for (int u = 0; u < TYPES; u++) {
                if (contains(directFaces[t], u)) {
                    faces |= allFaces[u];
                }
            }
            allFaces[t] = faces;
        }
    }

    /** The MEMBERS of a BUILD, by their numbers. */
    private static final class Members {
        private int size;
        // A bit for each number: MEMBERS that are GONE.
        private int gone;
        private final int[] owners = new int[MEMBERS];
        // What a TYPE has only once: the sign of a FIELD, that of a METHOD with SIGNS added.
        private final int[] keys = new int[MEMBERS];
        private final int[] accesses = new int[MEMBERS];
        private final int[] flags = new int[MEMBERS];

        int append(int t, boolean method, int sign, int access, int newFlags) {
            if (size >= MEMBERS) {
                return FULL;
            }
            int m = size;
            size++;
            owners[m] = t;
            keys[m] = keyOf(method, sign);
            accesses[m] = access;
            flags[m] = newFlags;
            return m;
        }

        boolean change(int m, int access, int newFlags) {
            if (!isPresent(m)) {
                return false;
            }
            accesses[m] = access;
            flags[m] = newFlags;
            return true;
        }

        boolean discard(int m) {
            if (!isPresent(m)) {
                return false;
            }
            gone |= bit(m);
            return true;
        }

        void discardAllOf(int t) {
            for (int m = 0; m < size; m++) {
                if (owners[m] == t) {
                    gone |= bit(m);
                }
            }
        }

        void becomeAs(Members other) {
            size = other.size;
            gone = other.gone;
            System.arraycopy(other.owners, 0, owners, 0, MEMBERS);
            System.arraycopy(other.keys, 0, keys, 0, MEMBERS);
            System.arraycopy(other.accesses, 0, accesses, 0, MEMBERS);
            System.arraycopy(other.flags, 0, flags, 0, MEMBERS);
        }

        /** The number of the FIELD or METHOD of TYPE t with this sign, or NONE. */
        int find(int t, boolean method, int sign) {
            int key = keyOf(method, sign);
            for (int m = 0; m < size; m++) {
                if (keys[m] == key && owners[m] == t && !contains(gone, m)) {
                    return m;
                }
            }
            return NONE;
        }

        /** The set of TYPES that have a METHOD with this sign, neither PRIVATE nor STATIC. */
        int ownersOfInheritable(int sign) {
            int key = keyOf(true, sign);
            int set = 0;
            for (int m = 0; m < size; m++) {
                if (keys[m] == key && !contains(gone, m) && isInheritable(m)) {
                    set |= bit(owners[m]);
                }
            }
            return set;
        }

        boolean isInheritable(int m) {
            return accesses[m] != PRIVATE && (flags[m] & STATIC) == 0;
        }

        boolean isSameThing(int m, Members other, int n) {
            return owners[m] == other.owners[n] && keys[m] == other.keys[n];
        }

        boolean isStatic(int m) {
            return (flags[m] & STATIC) != 0;
        }

        boolean isAbstract(int m) {
            return (flags[m] & ABSTRACT) != 0;
        }

        boolean isFinal(int m) {
            return (flags[m] & FINAL) != 0;
        }

        int ownerOf(int m) {
            return owners[m];
        }

        int accessOf(int m) {
            return accesses[m];
        }

        int countAll() {
            return size;
        }

        int countPresent() {
            return size - Integer.bitCount(gone);
        }

        int countAbstractMethods() {
            int sum = 0;
            for (int m = 0; m < size; m++) {
                sum += keys[m] >= SIGNS && isAbstract(m) && !contains(gone, m) ? 1 : 0;
            }
            return sum;
        }

        private boolean isPresent(int m) {
            return isWithin(m, size) && !contains(gone, m);
        }

        private static int keyOf(boolean method, int sign) {
            return method ? SIGNS + sign : sign;
        }
    }

    /** A BUILD: its TYPES and MEMBERS, and what REFERENCES come to in it. */
    private static final class Build {
        private static final int SEVERAL = -4;

        private final Hierarchy types = new Hierarchy();
        private final Members members = new Members();
        private int searched;

        boolean discardType(int t) {
            if (!types.takeAway(t)) {
                return false;
            }
            members.discardAllOf(t);
            return true;
        }

        int addMember(int t, boolean method, int sign, int access, int flags) {
            if (!types.isThere(t) || members.find(t, method, sign) != NONE) {
                return REFUSED;
            }
            return members.append(t, method, sign, access, flags);
        }

        void becomeAs(Build other) {
            types.becomeAs(other.types);
            members.becomeAs(other.members);
        }

        int resolution(Reference f) {
            int verdict = types.loading(f.holder);
            if (!isGood(verdict)) {
                return verdict;
            }
            verdict = types.reaching(f.way, f.holder);
            if (!isGood(verdict) || f.kind == TYPE_USE) {
                return verdict;
            }
            verdict = f.isOfField() ? lookUpField(f) : lookUpMethod(f);
            return isGood(verdict) ? checkMember(f, verdict - MEMBER) : verdict;
        }

        /** SELECTING for TYPE c, when RESOLVING has come to this VERDICT; NONE where nothing can be SELECTED. */
        int selection(Reference f, int resolved, int c) {
            if (!f.hasReceiver() || !isGood(resolved)) {
                return NONE;
            }
            if (!isFit(c, f.way)) {
                return UNFIT + c;
            }
            int m = resolved - MEMBER;
            int verdict = members.accessOf(m) == PRIVATE ? resolved : selectFor(c, m, f.sign);
            return isGood(verdict) ? checkSelected(f, verdict - MEMBER) : verdict;
        }

        private int lookUpField(Reference f) {
            searched = 0;
            int m = findField(f.way, f.sign);
            return m == NONE ? NO_FIELD + f.way : MEMBER + m;
        }

        // What was searched in vain is not searched again, so it goes no more than TYPES levels deep.
        private int findField(int t, int sign) {
            if (contains(searched, t)) {
                return NONE;
            }
            searched |= bit(t);
            int m = members.find(t, false, sign);
            for (int u = 0; u < TYPES && m == NONE; u++) {
                if (contains(types.directFacesOf(t), u)) {
                    m = findField(u, sign);
                }
            }
            if (m == NONE && t != ROOT) {
                m = findField(types.superOf(t), sign);
            }
            return m;
        }

        private int lookUpMethod(Reference f) {
            boolean isInterface = types.isInterface(f.way);
            if (f.kind == VIRTUAL && isInterface || f.kind == FACE && !isInterface) {
                return CHANGED + f.way;
            }
            int m = isInterface ? findInInterface(f.way, f.sign) : findInAbove(f.way, f.sign);
            if (m == NONE) {
                m = findBest(f.way, f.sign);
            }
            return m == NONE ? NO_METHOD + f.way : MEMBER + m;
        }

        private int findInInterface(int r, int sign) {
            int own = members.find(r, true, sign);
            if (own != NONE) {
                return own;
            }
            int m = members.find(ROOT, true, sign);
            return m != NONE && members.accessOf(m) == PUBLIC && !members.isStatic(m) ? m : NONE;
        }

        private int findInAbove(int r, int sign) {
            int t = r;
            for (int steps = 0; steps < TYPES && t != Hierarchy.NO_TYPE; steps++) {
                int m = members.find(t, true, sign);
                if (m != NONE) {
                    return m;
                }
                t = types.superOf(t);
            }
            return NONE;
        }

        private int findBest(int r, int sign) {
            int holders = types.facesOf(r) & members.ownersOfInheritable(sign);
            int only = findOnlyWithBody(types.mostSpecificOf(holders), sign);
            return only >= 0 ? only : findLeast(holders, sign);
        }

        private int findLeast(int holders, int sign) {
            int least = NONE;
            for (int t = 0; t < TYPES; t++) {
                if (contains(holders, t)) {
                    int m = members.find(t, true, sign);
                    least = least == NONE ? m : Math.min(least, m);
                }
            }
            return least;
        }

        /** The one METHOD that these TYPES have and that is not ABSTRACT; NONE or SEVERAL if it is not just one. */
        private int findOnlyWithBody(int holders, int sign) {
            int only = NONE;
            for (int t = 0; t < TYPES; t++) {
                if (contains(holders, t)) {
                    int m = members.find(t, true, sign);
                    if (m != NONE && !members.isAbstract(m)) {
                        only = only == NONE ? m : SEVERAL;
                    }
                }
            }
            return only;
        }

        private int checkMember(Reference f, int m) {
            if (!isAccessible(m, f.way, f.holder)) {
                return BARRED + MEMBER + m;
            }
            if (members.isStatic(m) != f.needsStatic()) {
                return CHANGED + MEMBER + m;
            }
            if (f.isPut() && members.isFinal(m) && members.ownerOf(m) != f.holder) {
                return BARRED + MEMBER + m;
            }
            if (f.kind == SPECIAL && !types.liesUnder(f.holder, f.way)) {
                return CHANGED + f.way;
            }
            if (f.kind == SPECIAL && members.isAbstract(m)) {
                return CUT + MEMBER + m;
            }
            return MEMBER + m;
        }

        private boolean isAccessible(int m, int r, int d) {
            int c = members.ownerOf(m);
            switch (members.accessOf(m)) {
                case PUBLIC:
                    return true;
                case PROTECTED:
                    return types.isSamePackage(c, d) || isInherited(m, r, d);
                case PACKAGE:
                    return types.isSamePackage(c, d);
                default:
                    return types.nestOf(c) == types.nestOf(d);
            }
        }

        private boolean isInherited(int m, int r, int d) {
            return types.hasAbove(d, members.ownerOf(m))
                    && (members.isStatic(m) || types.liesUnder(r, d) || types.liesUnder(d, r));
        }

        private boolean isFit(int c, int r) {
            return isGood(types.loading(c)) && types.canBeMade(c) && types.liesUnder(c, r);
        }

        private int selectFor(int c, int m, int sign) {
            int t = c;
            for (int steps = 0; steps < TYPES && t != Hierarchy.NO_TYPE; steps++) {
                int n = members.find(t, true, sign);
                if (n != NONE && overrides(n, m)) {
                    return MEMBER + n;
                }
                t = types.superOf(t);
            }
            return selectFromFaces(c, sign);
        }

        private int selectFromFaces(int c, int sign) {
            int holders = types.facesOf(c) & members.ownersOfInheritable(sign);
            int only = findOnlyWithBody(types.mostSpecificOf(holders), sign);
            if (only == SEVERAL) {
                return CHANGED + c;
            }
            return only == NONE ? CUT + c : MEMBER + only;
        }

        // Neither n nor m is asked for its place above or below the other: the document asks for none.
        private boolean overrides(int n, int m) {
            if (!members.isInheritable(n)) {
                return false;
            }
            return n == m || members.accessOf(m) != PACKAGE
                    || types.isSamePackage(members.ownerOf(n), members.ownerOf(m));
        }

        private int checkSelected(Reference f, int s) {
            if (members.isAbstract(s)) {
                return CUT + MEMBER + s;
            }
            int access = members.accessOf(s);
            if (f.kind == FACE && access != PUBLIC && access != PRIVATE) {
                return BARRED + MEMBER + s;
            }
            return MEMBER + s;
        }
    }
}
