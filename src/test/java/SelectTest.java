/** Promise 14: select. */
public final class SelectTest {
    private static final Checks CHECKS = new Checks("SelectTest");

    public static void main(String[] args) {
        refuses();
        noneWhereNothingCanBeSelected();
        unfit();
        privateIsTakenAsItIs();
        firstOfTheAboveThatOverrides();
        packageAccessIsOverriddenInThePackage();
        facesThatHaveBodies();
        classesBeforeFaces();
        cutAndBarred();
        CHECKS.end();
    }

    private static void refuses() {
        LinkPredictor x = new LinkPredictor();
        x.member(0, true, 0, Sorts.PUBLIC, 0);
        x.refer(Sorts.VIRTUAL, 0, 0, 0);
        CHECKS.due("GOOD", x.select(0, 0, 0), Sorts.M);
        CHECKS.due("build 2", x.select(2, 0, 0), LinkPredictor.REFUSED);
        CHECKS.due("none such", x.select(0, 1, 0), LinkPredictor.REFUSED);
        CHECKS.due("c 12", x.select(0, 0, 12), LinkPredictor.REFUSED);
        CHECKS.due("NEW: not GOOD", x.select(1, 0, 0), LinkPredictor.NONE);
        for (int far : Sorts.FAR) {
            CHECKS.due("build far", x.select(far, 0, 0), LinkPredictor.REFUSED);
            CHECKS.due("i far", x.select(0, far, 0), LinkPredictor.REFUSED);
            CHECKS.due("c far", x.select(0, 0, far), LinkPredictor.REFUSED);
            CHECKS.due("c far, not GOOD", x.select(1, 0, far), LinkPredictor.REFUSED);
        }
    }

    private static void noneWhereNothingCanBeSelected() {
        LinkPredictor x = new LinkPredictor();
        x.member(0, false, 0, Sorts.PUBLIC, 0);
        x.member(0, false, 1, Sorts.PUBLIC, Sorts.STATIC);
        x.member(0, true, 0, Sorts.PUBLIC, 0);
        x.member(0, true, 1, Sorts.PUBLIC, Sorts.STATIC);
        int[] signs = {0, 0, 1, 1, 0, 0, 1, 0, 0};
        int[] due = {16, 16, 17, 17, 18, 18, 19, Sorts.CHANGED, 0};
        for (int kind = 0; kind < 9; kind++) {
            int i = x.refer(kind, 0, 0, signs[kind]);
            CHECKS.due("resolve, kind " + kind, x.resolve(0, i), due[kind]);
            int selected = kind == Sorts.VIRTUAL ? Sorts.M + 2 : LinkPredictor.NONE;
            CHECKS.due("select, kind " + kind, x.select(0, i, 0), selected);
        }
        int i = x.refer(Sorts.VIRTUAL, 0, 0, 1);
        CHECKS.due("not GOOD, an UNFIT receiver", x.select(0, i, 9), LinkPredictor.NONE);
    }

    private static void unfit() {
        LinkPredictor x = new LinkPredictor();
        x.type(1, 1, 0, 0, 0);
        x.type(2, 3, 0, 0, 0);
        x.type(3, 5, 0, 1, 0);
        x.type(4, 1, 0, 1, 1 << 9);
        x.type(5, 9, 0, 1, 0);
        x.member(0, true, 0, Sorts.PUBLIC, 0);
        int ofRoot = x.refer(Sorts.VIRTUAL, 0, 0, 0);
        int of1 = x.refer(Sorts.VIRTUAL, 0, 1, 0);
        CHECKS.due("an INTERFACE", x.select(0, ofRoot, 2), Sorts.UNFIT + 2);
        CHECKS.due("ABSTRACT", x.select(0, ofRoot, 3), Sorts.UNFIT + 3);
        CHECKS.due("not LOADED", x.select(0, ofRoot, 4), Sorts.UNFIT + 4);
        CHECKS.due("not THERE", x.select(0, ofRoot, 11), Sorts.UNFIT + 11);
        CHECKS.due("FINAL is fit", x.select(0, ofRoot, 5), Sorts.M);
        CHECKS.due("not UNDER r", x.select(0, of1, 0), Sorts.UNFIT);
        CHECKS.due("UNDER r", x.select(0, of1, 5), Sorts.M);
        CHECKS.due("r itself", x.select(0, of1, 1), Sorts.M);
    }

    private static void privateIsTakenAsItIs() {
        LinkPredictor x = new LinkPredictor();
        x.type(1, 1, 0, 0, 0);
        x.type(2, 1, 0, 1, 0);
        x.type(3, 3, 0, 0, 0);
        x.type(4, 1, 0, 0, 1 << 3);
        x.member(1, true, 0, Sorts.PRIVATE, 0);
        x.member(2, true, 0, Sorts.PUBLIC, 0);
        x.member(3, true, 0, Sorts.PRIVATE, 0);
        x.member(4, true, 0, Sorts.PUBLIC, 0);
        int call = x.refer(Sorts.VIRTUAL, 1, 1, 0);
        CHECKS.due("not the one below", x.select(0, call, 2), Sorts.M);
        int face = x.refer(Sorts.FACE, 3, 3, 0);
        CHECKS.due("of a FACE", x.select(0, face, 4), Sorts.M + 2);
        x.remake(0, Sorts.PRIVATE, Sorts.ABSTRACT);
        CHECKS.due("ABSTRACT", x.select(0, call, 2), Sorts.CUT + Sorts.M);
        CHECKS.due("UNFIT comes first", x.select(0, call, 4), Sorts.UNFIT + 4);
    }

    private static void firstOfTheAboveThatOverrides() {
        LinkPredictor x = new LinkPredictor();
        x.type(1, 1, 0, 0, 0);
        x.type(2, 1, 1, 1, 0);
        x.type(3, 1, 2, 2, 0);
        x.member(1, true, 0, Sorts.PROTECTED, 0);
        int call = x.refer(Sorts.VIRTUAL, 1, 1, 0);
        CHECKS.due("m", x.select(0, call, 3), Sorts.M);
        x.member(2, true, 0, Sorts.PUBLIC, 0);
        CHECKS.due("of another PACKAGE", x.select(0, call, 3), Sorts.M + 1);
        x.member(3, true, 0, Sorts.PACKAGE, 0);
        CHECKS.due("whatever its own ACCESS is", x.select(0, call, 3), Sorts.M + 2);
        x.remake(2, Sorts.PRIVATE, 0);
        CHECKS.due("not a PRIVATE one", x.select(0, call, 3), Sorts.M + 1);
        x.remake(2, Sorts.PUBLIC, Sorts.STATIC);
        CHECKS.due("not a STATIC one", x.select(0, call, 3), Sorts.M + 1);
        CHECKS.due("2", x.select(0, call, 2), Sorts.M + 1);
        CHECKS.due("1", x.select(0, call, 1), Sorts.M);
        x.member(3, false, 0, Sorts.PUBLIC, 0);
        x.member(3, true, 1, Sorts.PUBLIC, 0);
        CHECKS.due("no other kind or sign", x.select(0, call, 3), Sorts.M + 1);
    }

    private static void packageAccessIsOverriddenInThePackage() {
        LinkPredictor x = new LinkPredictor();
        x.type(1, 1, 0, 0, 0);
        x.type(2, 1, 0, 1, 0);
        x.type(3, 1, 1, 2, 0);
        x.type(4, 1, 0, 3, 0);
        x.member(1, true, 0, Sorts.PACKAGE, 0);
        x.member(3, true, 0, Sorts.PUBLIC, 0);
        int call = x.refer(Sorts.VIRTUAL, 1, 1, 0);
        CHECKS.due("3 does not override", x.select(0, call, 3), Sorts.M);
        CHECKS.due("nor for 4", x.select(0, call, 4), Sorts.M);
        x.member(2, true, 0, Sorts.PUBLIC, 0);
        CHECKS.due("2 does, behind 3", x.select(0, call, 3), Sorts.M + 2);
        x.member(4, true, 0, Sorts.PACKAGE, 0);
        CHECKS.due("4 does", x.select(0, call, 4), Sorts.M + 3);
        x.remake(0, Sorts.PUBLIC, 0);
        CHECKS.due("PUBLIC: 3 does", x.select(0, call, 3), Sorts.M + 1);
    }

    private static void facesThatHaveBodies() {
        LinkPredictor x = new LinkPredictor();
        x.type(1, 3, 0, 0, 0);
        x.type(2, 3, 0, 0, 1 << 1);
        x.type(3, 3, 0, 0, 1 << 1);
        x.type(4, 1, 0, 0, 1 << 2);
        x.type(5, 1, 0, 4, 1 << 3);
        x.member(1, true, 0, Sorts.PUBLIC, 0);
        int call = x.refer(Sorts.FACE, 0, 1, 0);
        CHECKS.due("one alone", x.select(0, call, 5), Sorts.M);
        x.member(2, true, 0, Sorts.PUBLIC, 0);
        CHECKS.due("MOST SPECIFIC", x.select(0, call, 5), Sorts.M + 1);
        x.member(3, true, 0, Sorts.PUBLIC, 0);
        CHECKS.due("two of them", x.select(0, call, 5), Sorts.CHANGED + 5);
        CHECKS.due("for 4 one", x.select(0, call, 4), Sorts.M + 1);
        x.remake(1, Sorts.PUBLIC, Sorts.ABSTRACT);
        CHECKS.due("one has a body", x.select(0, call, 5), Sorts.M + 2);
        CHECKS.due("for 4 none", x.select(0, call, 4), Sorts.CUT + 4);
        x.remake(1, Sorts.PRIVATE, Sorts.ABSTRACT);
        CHECKS.due("PRIVATE covers nothing", x.select(0, call, 4), Sorts.M);
        x.remake(2, Sorts.PUBLIC, Sorts.STATIC);
        CHECKS.due("STATIC covers nothing", x.select(0, call, 5), Sorts.M);
    }

    private static void classesBeforeFaces() {
        LinkPredictor x = new LinkPredictor();
        x.type(1, 3, 0, 0, 0);
        x.type(2, 1, 0, 0, 0);
        x.type(3, 1, 0, 2, 1 << 1);
        x.member(1, true, 0, Sorts.PUBLIC, 0);
        int call = x.refer(Sorts.FACE, 0, 1, 0);
        CHECKS.due("the FACE's own", x.select(0, call, 3), Sorts.M);
        x.member(0, true, 0, Sorts.PUBLIC, 0);
        CHECKS.due("the ROOT's comes before", x.select(0, call, 3), Sorts.M + 1);
        x.member(2, true, 0, Sorts.PUBLIC, 0);
        CHECKS.due("a class above that knows no FACE", x.select(0, call, 3), Sorts.M + 2);
        x.remake(2, Sorts.PUBLIC, Sorts.ABSTRACT);
        CHECKS.due("ABSTRACT: CUT, not the FACE's", x.select(0, call, 3), Sorts.CUT + Sorts.M + 2);
        int virtual = x.refer(Sorts.VIRTUAL, 0, 3, 0);
        CHECKS.due("VIRTUAL", x.select(0, virtual, 3), Sorts.CUT + Sorts.M + 2);
    }

    private static void cutAndBarred() {
        LinkPredictor x = new LinkPredictor();
        x.type(1, 3, 0, 0, 0);
        x.type(2, 1, 0, 0, 1 << 1);
        x.member(1, true, 0, Sorts.PUBLIC, Sorts.ABSTRACT);
        int face = x.refer(Sorts.FACE, 0, 1, 0);
        int virtual = x.refer(Sorts.VIRTUAL, 0, 2, 0);
        CHECKS.due("no body at all", x.select(0, face, 2), Sorts.CUT + 2);
        CHECKS.due("nor for VIRTUAL", x.select(0, virtual, 2), Sorts.CUT + 2);
        x.member(2, true, 0, Sorts.PROTECTED, 0);
        CHECKS.due("PROTECTED by FACE", x.select(0, face, 2), Sorts.BARRED + Sorts.M + 1);
        CHECKS.due("PROTECTED by VIRTUAL", x.select(0, virtual, 2), Sorts.M + 1);
        x.remake(1, Sorts.PACKAGE, 0);
        CHECKS.due("PACKAGE by FACE", x.select(0, face, 2), Sorts.BARRED + Sorts.M + 1);
        x.remake(1, Sorts.PACKAGE, Sorts.ABSTRACT);
        CHECKS.due("CUT before BARRED", x.select(0, face, 2), Sorts.CUT + Sorts.M + 1);
        x.remake(1, Sorts.PRIVATE, 0);
        CHECKS.due("a PRIVATE one is passed over", x.select(0, face, 2), Sorts.CUT + 2);
        x.remake(0, Sorts.PACKAGE, 0);
        CHECKS.due("the FACE's own, of PACKAGE access", x.select(0, face, 2), Sorts.BARRED + Sorts.M);
    }
}
