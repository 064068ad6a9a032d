/** The edges of promise 13, sentence by sentence: resolve, and how MEMBERS are LOOKED UP. */
public final class ResolveBoundsTest {
    private static final Checks CHECKS = new Checks("ResolveBoundsTest");

    public static void main(String[] args) {
        resolveOfEveryReference();
        resolveRefuses();
        holderThenWay();
        reaching();
        kindTypeNeedsNoMember();
        fieldOfItselfFacesAndSuper();
        fieldFarAbove();
        fieldOfFaceBeforeSuper();
        fieldOfFacesByTheirNumbers();
        noFieldAtAll();
        kindsAndInterfaces();
        methodFarAbove();
        firstOfTheAbove();
        methodOfAnInterface();
        bestIsOfFaces();
        bestIsMostSpecific();
        justOneIsNotAbstract();
        leastNumberOfAll();
        privateAndStaticAreLeftOut();
        noMethodAtAll();
        accessComesFirst();
        everyKind();
        staticOrNot();
        putOfFinal();
        special();
        everySortIsTold();
        lastTypeAndLastMemberAreTold();
        CHECKS.end();
    }

    private static int told(LinkPredictor x, int kind, int d, int r, int sign) {
        x.forget();
        return x.resolve(0, x.refer(kind, d, r, sign));
    }

    /** 1 is the SUPER of 2, and so on up to 11. */
    private static LinkPredictor ladder() {
        LinkPredictor x = new LinkPredictor();
        for (int t = 1; t <= 11; t++) {
            x.type(t, 1, 0, t - 1, 0);
        }
        return x;
    }

    private static void resolveOfEveryReference() {
        CHECKS.sentence("The VERDICT of RESOLVING REFERENCE i in a BUILD.");
        LinkPredictor x = new LinkPredictor();
        for (int i = 0; i < 16; i++) {
            x.refer(Sorts.TYPE, 0, i % 12, 0);
        }
        x.type(11, 1, 0, 0, 0);
        x.write(1);
        x.type(1, 1, 0, 0, 0);
        for (int i = 0; i < 16; i++) {
            int r = i % 12;
            CHECKS.due("OLD " + i, x.resolve(0, i), r == 0 || r == 11 ? r : Sorts.MISSING + r);
            CHECKS.due("NEW " + i, x.resolve(1, i), r == 0 || r == 1 ? r : Sorts.MISSING + r);
        }
    }

    private static void resolveRefuses() {
        CHECKS.sentence("REFUSED if there is none such, or another build.");
        Refusals.Call resolve = (x, a) -> x.resolve(a[0], a[1]);
        Range[] ranges = {Range.BUILD, new Range(0, 15)};
        Refusals.everyWrongQuestion(CHECKS, "resolve", resolve, LinkPredictor.REFUSED, new int[] {0, 0}, ranges);
        Refusals.everyWrongQuestion(CHECKS, "resolve", resolve, LinkPredictor.REFUSED, new int[] {1, 7}, ranges);
        LinkPredictor x = new LinkPredictor();
        for (int many = 0; many <= 16; many++) {
            CHECKS.due("the first that is not there", x.resolve(0, many), LinkPredictor.REFUSED);
            CHECKS.due("nor in NEW", x.resolve(1, many), LinkPredictor.REFUSED);
            if (many > 0) {
                CHECKS.due("the last one", x.resolve(0, many - 1), 0);
            }
            x.refer(Sorts.TYPE, 0, 0, 0);
        }
    }

    private static void holderThenWay() {
        CHECKS.sentence("RESOLVING it in a BUILD: d is LOADED; then r is REACHED from d");
        for (int kind = 0; kind <= 8; kind++) {
            for (int d = 1; d <= 11; d++) {
                int r = d == 11 ? 1 : d + 1;
                LinkPredictor x = new LinkPredictor();
                int i = x.refer(kind, d, r, 14);
                CHECKS.due("neither, kind " + kind, x.resolve(0, i), Sorts.MISSING + d);
                x.type(r, 0, 1, 0, 0);
                CHECKS.due("r alone, kind " + kind, x.resolve(0, i), Sorts.MISSING + d);
                x.type(d, 0, 2, d, 0);
                CHECKS.due("d is CIRCULAR, kind " + kind, x.resolve(0, i), Sorts.CIRCULAR + d);
                x.type(d, 0, 2, 0, 0);
                CHECKS.due("r is BARRED, kind " + kind, x.resolve(0, i), Sorts.BARRED + r);
                x.drop(r);
                CHECKS.due("d alone, kind " + kind, x.resolve(0, i), Sorts.MISSING + r);
            }
        }
    }

    private static void reaching() {
        CHECKS.sentence("REACHING a TYPE t from a TYPE d: t is LOADED; then BARRED t, if it is not PUBLIC"
                + " and its PACKAGE is not that of d.");
        for (int kind = 0; kind <= 8; kind++) {
            for (int flags = 0; flags <= 15; flags++) {
                LinkPredictor x = new LinkPredictor();
                x.type(11, flags, 3, 0, 0);
                x.type(10, 0, 3, 0, 0);
                x.type(9, 0, 2, 0, 0);
                boolean isPublic = (flags & 1) != 0;
                int near = x.resolve(0, x.refer(kind, 10, 11, 0));
                int far = x.resolve(0, x.refer(kind, 9, 11, 0));
                CHECKS.due("BARRED or not, kind " + kind, far, isPublic ? near : Sorts.BARRED + 11);
                CHECKS.no("the same PACKAGE", near == Sorts.BARRED + 11);
                x.type(11, flags, 3, 8, 0);
                far = x.resolve(0, x.refer(kind, 9, 11, 0));
                CHECKS.due("LOADED first, kind " + kind, far, Sorts.MISSING + 8);
            }
        }
    }

    private static void kindTypeNeedsNoMember() {
        CHECKS.sentence("that is all for KIND 8: it is GOOD.");
        castsOfEverySign();
        CHECKS.sentence("8 TYPE (a cast, or a class that is caught; NAME and SHAPE do not matter).");
        castsOfEverySign();
    }

    private static void castsOfEverySign() {
        for (int r = 0; r <= 11; r++) {
            LinkPredictor x = ladder();
            x.member(r, false, 3, Sorts.PRIVATE, 0);
            x.member(r, true, 4, Sorts.PRIVATE, Sorts.STATIC);
            for (int sign = 0; sign <= 14; sign++) {
                CHECKS.due("TYPE " + r + ", sign " + sign, told(x, Sorts.TYPE, 5, r, sign), r);
            }
        }
    }

    private static void fieldOfItselfFacesAndSuper() {
        CHECKS.sentence("A FIELD: FIND in r: a FIELD of r itself of this NAME and SHAPE");
        LinkPredictor x = new LinkPredictor();
        x.type(1, 3, 0, 0, 0);
        x.type(2, 1, 0, 0, 0);
        x.type(3, 1, 0, 2, 1 << 1);
        for (int t = 0; t <= 3; t++) {
            x.member(t, false, 0, Sorts.PUBLIC, 0);
            x.member(t, true, 0, Sorts.PUBLIC, 0);
        }
        CHECKS.due("itself", told(x, Sorts.GET, 0, 3, 0), Sorts.M + 6);
        x.remove(6);
        CHECKS.due("its FACE", told(x, Sorts.GET, 0, 3, 0), Sorts.M + 2);
        x.remove(2);
        CHECKS.due("the SUPER of its FACE", told(x, Sorts.GET, 0, 3, 0), Sorts.M);
        x.remove(0);
        CHECKS.due("its SUPER", told(x, Sorts.GET, 0, 3, 0), Sorts.M + 4);
        x.remove(4);
        CHECKS.due("none: METHODS are none", told(x, Sorts.GET, 0, 3, 0), Sorts.NO_FIELD + 3);
    }

    private static void fieldFarAbove() {
        CHECKS.sentence("else what is FOUND in its SUPER.");
        LinkPredictor x = ladder();
        for (int t = 0; t <= 11; t++) {
            CHECKS.due("member", x.member(t, false, 14, Sorts.PUBLIC, 0), t);
            CHECKS.due("the one next above 11", told(x, Sorts.GET, 0, 11, 14), Sorts.M + t);
            CHECKS.due("that of the ROOT", told(x, Sorts.GET, 0, 0, 14), Sorts.M);
        }
        LinkPredictor y = new LinkPredictor();
        for (int t = 1; t <= 11; t++) {
            y.type(t, 3, 0, 0, t == 1 ? 0 : 1 << t - 1);
        }
        y.member(1, false, 14, Sorts.PUBLIC, 0);
        CHECKS.due("ten FACES far", told(y, Sorts.GET, 0, 11, 14), Sorts.M);
        y.remove(0);
        y.member(0, false, 14, Sorts.PUBLIC, 0);
        CHECKS.due("that of the ROOT, by FACES", told(y, Sorts.GET, 0, 11, 14), Sorts.M + 1);
    }

    private static void fieldOfFaceBeforeSuper() {
        CHECKS.sentence("what is FOUND in one of its DIRECT FACES, by their numbers; else what is FOUND in its SUPER.");
        for (int face = 1; face <= 11; face++) {
            int s = face == 5 ? 6 : 5;
            int r = face == 8 ? 9 : 8;
            LinkPredictor x = new LinkPredictor();
            x.type(face, 3, 0, 0, 0);
            x.type(s, 1, 0, 0, 0);
            x.type(r, 1, 0, s, 1 << face);
            x.member(s, false, 0, Sorts.PUBLIC, 0);
            CHECKS.due("SUPER alone", told(x, Sorts.GET, 0, r, 0), Sorts.M);
            x.member(face, false, 0, Sorts.PUBLIC, 0);
            CHECKS.due("FACE " + face, told(x, Sorts.GET, 0, r, 0), Sorts.M + 1);
            x.type(s, 1, 0, 0, 1 << face);
            x.type(r, 1, 0, s, 0);
            CHECKS.due("the SUPER before its FACE", told(x, Sorts.GET, 0, r, 0), Sorts.M);
            x.remove(0);
            CHECKS.due("the FACE of its SUPER", told(x, Sorts.GET, 0, r, 0), Sorts.M + 1);
        }
    }

    private static void fieldOfFacesByTheirNumbers() {
        CHECKS.sentence("else what is FOUND in one of its DIRECT FACES, by their numbers");
        LinkPredictor x = new LinkPredictor();
        x.type(1, 1, 0, 0, 4092);
        for (int t = 2; t <= 11; t++) {
            x.type(t, 3, 0, 0, 0);
        }
        for (int t = 11; t >= 2; t--) {
            CHECKS.due("member", x.member(t, false, 2, Sorts.PUBLIC, 0), 11 - t);
            CHECKS.due("FACE " + t, told(x, Sorts.GET, 0, 1, 2), Sorts.M + 11 - t);
        }
        for (int m = 9; m >= 1; m--) {
            x.remove(m);
            CHECKS.due("the next FACE", told(x, Sorts.GET, 0, 1, 2), Sorts.M + m - 1);
        }
        // 2 has 11 as its FACE: what is FOUND there comes before what 3 has.
        x.type(2, 3, 0, 0, 1 << 11);
        x.member(3, false, 2, Sorts.PUBLIC, 0);
        CHECKS.due("the FACE of FACE 2 before FACE 3", told(x, Sorts.GET, 0, 1, 2), Sorts.M);
        x.remove(0);
        CHECKS.due("then FACE 3", told(x, Sorts.GET, 0, 1, 2), Sorts.M + 10);
    }

    private static void noFieldAtAll() {
        CHECKS.sentence("None at all: NO FIELD r.");
        for (int r = 0; r <= 11; r++) {
            LinkPredictor x = ladder();
            for (int kind = 0; kind <= 3; kind++) {
                CHECKS.due("without MEMBERS", told(x, kind, 0, r, 7), Sorts.NO_FIELD + r);
            }
            x.member(r, true, 7, Sorts.PUBLIC, 0);
            x.member(r, false, 6, Sorts.PUBLIC, 0);
            x.member(r, false, 8, Sorts.PUBLIC, 0);
            if (r < 11) {
                x.member(r + 1, false, 7, Sorts.PUBLIC, 0);
            }
            for (int kind = 0; kind <= 3; kind++) {
                CHECKS.due("none of this kind, NAME and SHAPE", told(x, kind, 0, r, 7), Sorts.NO_FIELD + r);
            }
        }
    }

    private static void kindsAndInterfaces() {
        CHECKS.sentence("A METHOD by VIRTUAL, SPECIAL or STATIC where r is no INTERFACE, or by SPECIAL or STATIC"
                + " where it is one, and by FACE where it is one; else CHANGED r.");
        LinkPredictor x = new LinkPredictor();
        x.type(10, 1, 0, 0, 0);
        x.type(11, 3, 0, 0, 0);
        int none = Sorts.NO_METHOD;
        int changed = Sorts.CHANGED;
        int[] ofClass = {none, none, none, changed};
        int[] ofInterface = {changed, none, none, none};
        for (int kind = 4; kind <= 7; kind++) {
            CHECKS.due("a class, kind " + kind, told(x, kind, 0, 10, 0), ofClass[kind - 4] + 10);
            CHECKS.due("an INTERFACE, kind " + kind, told(x, kind, 0, 11, 0), ofInterface[kind - 4] + 11);
            CHECKS.due("the ROOT, kind " + kind, told(x, kind, 0, 0, 0), ofClass[kind - 4]);
        }
    }

    private static void methodFarAbove() {
        CHECKS.sentence("the first one of the ABOVE of r that has one");
        LinkPredictor x = ladder();
        for (int t = 0; t <= 11; t++) {
            CHECKS.due("member", x.member(t, true, 14, Sorts.PUBLIC, 0), t);
            CHECKS.due("the one next above 11", told(x, Sorts.VIRTUAL, 0, 11, 14), Sorts.M + t);
            CHECKS.due("that of the ROOT", told(x, Sorts.VIRTUAL, 0, 0, 14), Sorts.M);
        }
    }

    /** The first one is taken whatever its ACCESS and FLAGS are, before all that FACES have. */
    private static void firstOfTheAbove() {
        CHECKS.sentence("the first one of the ABOVE of r that has one");
        for (int access = 0; access <= 3; access++) {
            for (int flags = 0; flags <= 7; flags++) {
                LinkPredictor x = new LinkPredictor();
                x.type(1, 3, 0, 0, 0);
                x.type(2, 1, 0, 0, 0);
                x.type(3, 1, 0, 2, 1 << 1);
                x.member(1, true, 0, Sorts.PUBLIC, 0);
                x.member(2, true, 0, access, flags);
                int kind = (flags & 1) != 0 ? Sorts.CALL_STATIC : Sorts.VIRTUAL;
                CHECKS.due("access " + access + " flags " + flags, told(x, kind, 2, 3, 0), Sorts.M + 1);
                x.remove(1);
                x.member(0, true, 0, access, flags);
                x.nest(2, 0);
                CHECKS.due("of the ROOT", told(x, kind, 2, 3, 0), Sorts.M + 2);
            }
        }
    }

    private static void methodOfAnInterface() {
        CHECKS.sentence("(for an INTERFACE: itself, then the ROOT, there only one that is PUBLIC and not STATIC)");
        for (int access = 0; access <= 3; access++) {
            for (int flags = 0; flags <= 7; flags++) {
                LinkPredictor x = new LinkPredictor();
                x.type(1, 3, 0, 0, 0);
                x.type(2, 3, 0, 0, 1 << 1);
                x.nest(2, 0);
                x.member(0, true, 0, access, flags);
                boolean counts = access == 3 && (flags & 1) == 0;
                String told = "access " + access + " flags " + flags;
                CHECKS.due("ROOT alone, " + told, told(x, Sorts.FACE, 2, 2, 0),
                        counts ? Sorts.M : Sorts.NO_METHOD + 2);
                x.member(1, true, 0, Sorts.PUBLIC, 0);
                CHECKS.due("ROOT before FACES, " + told, told(x, Sorts.FACE, 2, 2, 0), counts ? Sorts.M : Sorts.M + 1);
                x.remake(0, Sorts.PUBLIC, 0);
                x.member(2, true, 0, access, flags);
                int kind = (flags & 1) != 0 ? Sorts.CALL_STATIC : Sorts.FACE;
                CHECKS.due("itself, " + told, told(x, kind, 2, 2, 0), Sorts.M + 2);
            }
        }
    }

    private static void bestIsOfFaces() {
        CHECKS.sentence("else the BEST: of the METHODS of this NAME and SHAPE that FACES of r have");
        for (int face = 1; face <= 11; face++) {
            int r = face == 5 ? 6 : 5;
            int other = face == 7 ? 8 : 7;
            LinkPredictor x = new LinkPredictor();
            x.type(face, 3, 0, 0, 0);
            x.type(other, 3, 0, 0, 0);
            x.type(r, 1, 0, 0, 1 << face);
            x.member(other, true, 0, Sorts.PUBLIC, 0);
            x.member(face, false, 0, Sorts.PUBLIC, 0);
            x.member(face, true, 1, Sorts.PUBLIC, 0);
            CHECKS.due("none that counts", told(x, Sorts.VIRTUAL, 0, r, 0), Sorts.NO_METHOD + r);
            x.member(face, true, 0, Sorts.PUBLIC, 0);
            CHECKS.due("FACE " + face, told(x, Sorts.VIRTUAL, 0, r, 0), Sorts.M + 3);
            x.remake(3, Sorts.PUBLIC, Sorts.ABSTRACT);
            CHECKS.due("FACE " + face + ", ABSTRACT", told(x, Sorts.VIRTUAL, 0, r, 0), Sorts.M + 3);
        }
    }

    private static void bestIsMostSpecific() {
        CHECKS.sentence("those are MOST SPECIFIC that belong to a FACE under which no other one lies"
                + " that has one of these, too");
        for (int high = 1; high <= 11; high++) {
            for (int low = 1; low <= 11; low++) {
                int between = high % 11 + 1 == low ? low % 11 + 1 : high % 11 + 1;
                if (low != high) {
                    mostSpecificOf(high, between, low);
                }
            }
        }
    }

    /** High, which has the METHOD with the least number, lies above between, and that above low. */
    private static void mostSpecificOf(int high, int between, int low) {
        LinkPredictor x = new LinkPredictor();
        int r = 1;
        while (r == high || r == between || r == low) {
            r++;
        }
        x.type(high, 3, 0, 0, 0);
        x.type(between, 3, 0, 0, 1 << high);
        x.type(low, 3, 0, 0, 1 << between);
        x.type(r, 1, 0, 0, 1 << high | 1 << low);
        x.member(high, true, 0, Sorts.PUBLIC, 0);
        x.member(low, true, 0, Sorts.PUBLIC, 0);
        String told = high + " above " + low;
        CHECKS.due(told, told(x, Sorts.VIRTUAL, 0, r, 0), Sorts.M + 1);
        x.remake(1, Sorts.PUBLIC, Sorts.ABSTRACT);
        CHECKS.due("ABSTRACT covers, too: " + told, told(x, Sorts.VIRTUAL, 0, r, 0), Sorts.M);
        x.remake(1, Sorts.PUBLIC, 0);
        x.type(r, 1, 0, 0, 1 << high);
        CHECKS.due("no FACE of r covers nothing: " + told, told(x, Sorts.VIRTUAL, 0, r, 0), Sorts.M);
    }

    /** 1 has the least number and lies above 2 to 5, of which so many have a body. */
    private static void justOneIsNotAbstract() {
        CHECKS.sentence("if just one of the MOST SPECIFIC ones is not ABSTRACT, that");
        for (int bodies = 0; bodies < 16; bodies++) {
            LinkPredictor x = new LinkPredictor();
            x.type(1, 3, 0, 0, 0);
            x.member(1, true, 0, Sorts.PUBLIC, 0);
            for (int t = 2; t <= 5; t++) {
                x.type(t, 3, 0, 0, 1 << 1);
                x.member(t, true, 0, Sorts.PUBLIC, (bodies >> t - 2 & 1) == 1 ? 0 : Sorts.ABSTRACT);
            }
            x.type(6, 1, 0, 0, 0b111100);
            x.type(7, 3, 0, 0, 0b111100);
            boolean justOne = Integer.bitCount(bodies) == 1;
            int due = justOne ? Sorts.M + 1 + Integer.numberOfTrailingZeros(bodies) : Sorts.M;
            CHECKS.due("a class, bodies " + bodies, told(x, Sorts.VIRTUAL, 0, 6, 0), due);
            CHECKS.due("an INTERFACE, bodies " + bodies, told(x, Sorts.FACE, 0, 7, 0), due);
        }
    }

    private static void leastNumberOfAll() {
        CHECKS.sentence("else the one of all that FACES have (left out as before) with the least number.");
        for (int first = 1; first <= 11; first++) {
            leastNumberOf(first, 0);
            leastNumberOf(first, Sorts.ABSTRACT);
        }
    }

    /** All TYPES but r are FACES of it; the first one has METHOD 0, the others follow from 11 down. */
    private static void leastNumberOf(int first, int flags) {
        int r = first == 1 ? 2 : 1;
        LinkPredictor x = new LinkPredictor();
        for (int t = 1; t <= 11; t++) {
            x.type(t, 3, 0, 0, 0);
        }
        x.type(r, 1, 0, 0, 4094 - (1 << r));
        x.member(first, true, 0, Sorts.PUBLIC, flags);
        for (int t = 11; t >= 1; t--) {
            if (t != first && t != r) {
                x.member(t, true, 0, Sorts.PUBLIC, flags);
            }
        }
        for (int m = 0; m < 10; m++) {
            CHECKS.due("the METHOD's number, " + first, told(x, Sorts.VIRTUAL, 0, r, 0), Sorts.M + m);
            x.remove(m);
        }
        CHECKS.due("none is left", told(x, Sorts.VIRTUAL, 0, r, 0), Sorts.NO_METHOD + r);
    }

    private static void privateAndStaticAreLeftOut() {
        CHECKS.sentence("that FACES of r have, PRIVATE and STATIC ones left out");
        for (int access = 0; access <= 3; access++) {
            for (int flags = 0; flags <= 7; flags++) {
                LinkPredictor x = new LinkPredictor();
                x.type(1, 3, 0, 0, 0);
                x.type(2, 3, 0, 0, 1 << 1);
                x.type(3, 1, 0, 0, 1 << 2);
                x.member(2, true, 0, access, flags);
                boolean counts = access != 0 && (flags & 1) == 0;
                String told = "access " + access + " flags " + flags;
                CHECKS.due("alone, " + told, told(x, Sorts.VIRTUAL, 2, 3, 0), counts ? Sorts.M : Sorts.NO_METHOD + 3);
                x.member(1, true, 0, Sorts.PUBLIC, 0);
                CHECKS.due("under another one, " + told, told(x, Sorts.VIRTUAL, 2, 3, 0),
                        counts ? Sorts.M : Sorts.M + 1);
            }
        }
    }

    private static void noMethodAtAll() {
        CHECKS.sentence("None at all: NO METHOD r.");
        for (int r = 0; r <= 11; r++) {
            LinkPredictor x = ladder();
            for (int kind = 4; kind <= 6; kind++) {
                CHECKS.due("without MEMBERS", told(x, kind, 0, r, 7), Sorts.NO_METHOD + r);
            }
            x.member(r, false, 7, Sorts.PUBLIC, 0);
            x.member(r, true, 6, Sorts.PUBLIC, 0);
            x.member(r, true, 8, Sorts.PUBLIC, 0);
            if (r < 11) {
                x.member(r + 1, true, 7, Sorts.PUBLIC, 0);
            }
            for (int kind = 4; kind <= 6; kind++) {
                CHECKS.due("none of this kind, NAME and SHAPE", told(x, kind, 0, r, 7), Sorts.NO_METHOD + r);
            }
        }
    }

    private static void accessComesFirst() {
        CHECKS.sentence("Then there must be ACCESS to the MEMBER, by way of r, from d. Then CHANGED m");
        for (int kind = 0; kind <= 7; kind++) {
            for (int flags = 0; flags <= 7; flags++) {
                LinkPredictor x = new LinkPredictor();
                x.type(11, kind == Sorts.FACE ? 3 : 1, 0, 0, 0);
                x.type(10, 1, 0, 0, 0);
                x.member(11, kind >= 4, 0, Sorts.PRIVATE, flags);
                CHECKS.due("BARRED, kind " + kind, told(x, kind, 10, 11, 0), Sorts.BARRED + Sorts.M);
            }
        }
    }

    private static void everyKind() {
        CHECKS.sentence("KINDS: 0 GET and 1 PUT of a FIELD that is not STATIC, 2 GET and 3 PUT of a STATIC one,"
                + " 4 VIRTUAL, 5 SPECIAL, 6 STATIC and 7 FACE calls of a METHOD");
        LinkPredictor x = new LinkPredictor();
        for (int t = 10; t <= 11; t++) {
            x.type(t, t == 10 ? 1 : 3, 0, 0, 0);
            x.member(t, false, 0, Sorts.PUBLIC, 0);
            x.member(t, false, 1, Sorts.PUBLIC, Sorts.STATIC);
            x.member(t, true, 0, Sorts.PUBLIC, 0);
            x.member(t, true, 1, Sorts.PUBLIC, Sorts.STATIC);
        }
        int[] signs = {0, 0, 1, 1, 0, 0, 1, 0};
        int[] ofClass = {16, 16, 17, 17, 18, 18, 19, Sorts.CHANGED + 10};
        int[] ofInterface = {20, 20, 21, 21, Sorts.CHANGED + 11, 22, 23, 22};
        for (int kind = 0; kind <= 7; kind++) {
            CHECKS.due("of a class, kind " + kind, told(x, kind, 10, 10, signs[kind]), ofClass[kind]);
            CHECKS.due("of an INTERFACE, kind " + kind, told(x, kind, 11, 11, signs[kind]), ofInterface[kind]);
        }
    }

    private static void staticOrNot() {
        CHECKS.sentence("Then CHANGED m, if it is STATIC and the KIND needs one that is not, or the other way.");
        boolean[] needsStatic = {false, false, true, true, false, false, true, false};
        for (int kind = 0; kind <= 7; kind++) {
            for (int flags = 0; flags <= 7; flags++) {
                boolean wrong = ((flags & 1) != 0) != needsStatic[kind];
                LinkPredictor x = new LinkPredictor();
                x.type(11, kind == Sorts.FACE ? 3 : 1, 0, 0, 0);
                x.type(10, 1, 0, 0, 0);
                x.member(11, kind >= 4, 0, Sorts.PUBLIC, flags);
                boolean changed = told(x, kind, 10, 11, 0) == Sorts.CHANGED + Sorts.M;
                CHECKS.due("kind " + kind + " flags " + flags, changed ? 1 : 0, wrong ? 1 : 0);
            }
        }
    }

    private static void putOfFinal() {
        CHECKS.sentence("Then, for PUT of a FINAL FIELD, BARRED m, if d is not the TYPE of it.");
        for (int kind = 0; kind <= 3; kind++) {
            for (int flags = 0; flags <= 7; flags++) {
                boolean isStatic = (flags & 1) != 0;
                boolean isFinal = (flags & 4) != 0;
                LinkPredictor x = new LinkPredictor();
                x.type(1, 1, 0, 0, 0);
                x.type(2, 1, 0, 1, 0);
                x.type(3, 1, 0, 0, 0);
                x.nest(3, 1);
                x.member(1, false, 0, Sorts.PUBLIC, flags);
                boolean fits = isStatic == (kind >= 2);
                for (int d = 0; d <= 3; d++) {
                    int barred = kind % 2 == 1 && isFinal && d != 1 ? Sorts.BARRED + Sorts.M : Sorts.M;
                    int due = fits ? barred : Sorts.CHANGED + Sorts.M;
                    CHECKS.due("kind " + kind + " flags " + flags + " from " + d, told(x, kind, d, 1, 0), due);
                    CHECKS.due("by way of 2", told(x, kind, d, 2, 0), due);
                }
            }
        }
    }

    private static void special() {
        CHECKS.sentence("Then for SPECIAL: CHANGED r if d is not UNDER r; CUT m (a call of what has no body),"
                + " if it is ABSTRACT. Else it is GOOD, with this MEMBER.");
        for (int r = 0; r <= 11; r++) {
            for (int d = 0; d <= 11; d++) {
                LinkPredictor x = ladder();
                x.member(0, true, 0, Sorts.PUBLIC, 0);
                boolean isUnder = d >= r;
                CHECKS.due(d + " by " + r, told(x, Sorts.SPECIAL, d, r, 0), isUnder ? Sorts.M : Sorts.CHANGED + r);
                x.remake(0, Sorts.PUBLIC, Sorts.ABSTRACT);
                CHECKS.due("ABSTRACT", told(x, Sorts.SPECIAL, d, r, 0),
                        isUnder ? Sorts.CUT + Sorts.M : Sorts.CHANGED + r);
                CHECKS.due("VIRTUAL", told(x, Sorts.VIRTUAL, d, r, 0), Sorts.M);
            }
        }
        LinkPredictor x = new LinkPredictor();
        x.type(10, 1, 0, 0, 1 << 11);
        x.type(11, 3, 0, 0, 0);
        x.member(11, true, 0, Sorts.PUBLIC, 0);
        CHECKS.due("UNDER a FACE", told(x, Sorts.SPECIAL, 10, 11, 0), Sorts.M);
        CHECKS.due("not UNDER it", told(x, Sorts.SPECIAL, 0, 11, 0), Sorts.CHANGED + 11);
    }

    private static void everySortIsTold() {
        CHECKS.sentence("0 GOOD (a MEMBER; for KIND 8 TYPE r), 1 MISSING, 2 CIRCULAR, 3 CHANGED, 4 BARRED,"
                + " 5 NO FIELD, 6 NO METHOD, 7 CUT, 8 UNFIT");
        LinkPredictor x = new LinkPredictor();
        x.type(1, 1, 0, 0, 0);
        x.type(2, 1, 0, 2, 0);
        x.type(3, 0, 1, 0, 0);
        x.member(1, true, 0, Sorts.PUBLIC, Sorts.ABSTRACT);
        CHECKS.due("GOOD, a MEMBER", told(x, Sorts.VIRTUAL, 0, 1, 0), 16);
        CHECKS.due("UNFIT", x.select(0, 0, 2), 8 * 64 + 2);
        CHECKS.due("CUT", x.select(0, 0, 1), 7 * 64 + 16);
        CHECKS.due("GOOD, a TYPE", told(x, Sorts.TYPE, 0, 1, 0), 1);
        CHECKS.due("MISSING", told(x, Sorts.TYPE, 0, 4, 0), 64 + 4);
        CHECKS.due("CIRCULAR", told(x, Sorts.TYPE, 0, 2, 0), 2 * 64 + 2);
        CHECKS.due("CHANGED, a TYPE", told(x, Sorts.FACE, 0, 1, 0), 3 * 64 + 1);
        CHECKS.due("CHANGED, a MEMBER", told(x, Sorts.CALL_STATIC, 0, 1, 0), 3 * 64 + 16);
        CHECKS.due("BARRED, a TYPE", told(x, Sorts.TYPE, 0, 3, 0), 4 * 64 + 3);
        CHECKS.due("NO FIELD", told(x, Sorts.GET, 0, 1, 0), 5 * 64 + 1);
        CHECKS.due("NO METHOD", told(x, Sorts.VIRTUAL, 0, 1, 1), 6 * 64 + 1);
        CHECKS.due("CUT", told(x, Sorts.SPECIAL, 1, 1, 0), 7 * 64 + 16);
        x.remake(0, Sorts.PRIVATE, 0);
        CHECKS.due("BARRED, a MEMBER", told(x, Sorts.VIRTUAL, 0, 1, 0), 4 * 64 + 16);
    }

    private static void lastTypeAndLastMemberAreTold() {
        CHECKS.sentence("told as 64 * SORT and what is to blame: a TYPE as its number, a MEMBER as 16 and its number.");
        LinkPredictor x = new LinkPredictor();
        x.type(1, 1, 0, 0, 0);
        x.type(11, 1, 0, 0, 0);
        for (int m = 0; m < 29; m++) {
            x.member(0, m >= 15, m % 15, 3, 0);
        }
        x.member(11, true, 14, Sorts.PUBLIC, Sorts.ABSTRACT);
        int last = 16 + 29;
        CHECKS.due("GOOD", told(x, Sorts.VIRTUAL, 0, 11, 14), last);
        CHECKS.due("CHANGED", told(x, Sorts.CALL_STATIC, 0, 11, 14), 3 * 64 + last);
        CHECKS.due("CUT", told(x, Sorts.SPECIAL, 11, 11, 14), 7 * 64 + last);
        x.remake(29, Sorts.PRIVATE, 0);
        CHECKS.due("BARRED", told(x, Sorts.VIRTUAL, 0, 11, 14), 4 * 64 + last);
        x.remove(29);
        CHECKS.due("NO METHOD", told(x, Sorts.VIRTUAL, 0, 11, 14), 6 * 64 + 11);
        x.remove(14);
        CHECKS.due("NO FIELD", told(x, Sorts.GET, 0, 11, 14), 5 * 64 + 11);
        CHECKS.due("CHANGED", told(x, Sorts.FACE, 0, 11, 14), 3 * 64 + 11);
        CHECKS.due("GOOD", told(x, Sorts.TYPE, 0, 11, 14), 11);
        x.type(11, 0, 1, 0, 0);
        CHECKS.due("BARRED", told(x, Sorts.TYPE, 0, 11, 14), 4 * 64 + 11);
        x.type(11, 1, 0, 11, 0);
        CHECKS.due("CIRCULAR", told(x, Sorts.TYPE, 0, 11, 14), 2 * 64 + 11);
        x.drop(11);
        CHECKS.due("MISSING", told(x, Sorts.TYPE, 0, 11, 14), 64 + 11);
    }
}
