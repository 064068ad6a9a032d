/** Promise 13: resolve (ACCESS has a test of its own). */
public final class ResolveTest {
    private static final Checks CHECKS = new Checks("ResolveTest");

    public static void main(String[] args) {
        refuses();
        loadingAndReaching();
        fieldsAreFoundInOrder();
        fieldOfTheRootByWayOfAFace();
        methodsOfClasses();
        methodsOfInterfaces();
        kindsFitInterfaces();
        bestOfTheFaces();
        leastOfAllThatFacesHave();
        mostSpecificLeavesOut();
        staticOrNot();
        putOfFinal();
        special();
        orderOfChecks();
        CHECKS.end();
    }

    private static int told(LinkPredictor x, int kind, int d, int r, int sign) {
        x.forget();
        return x.resolve(0, x.refer(kind, d, r, sign));
    }

    private static void refuses() {
        LinkPredictor x = new LinkPredictor();
        x.refer(8, 0, 0, 0);
        CHECKS.due("GOOD", x.resolve(1, 0), 0);
        CHECKS.due("none such", x.resolve(0, 1), LinkPredictor.REFUSED);
        CHECKS.due("build 2", x.resolve(2, 0), LinkPredictor.REFUSED);
        for (int far : Sorts.FAR) {
            CHECKS.due("build far", x.resolve(far, 0), LinkPredictor.REFUSED);
            CHECKS.due("i far", x.resolve(0, far), LinkPredictor.REFUSED);
        }
    }

    private static void loadingAndReaching() {
        LinkPredictor x = new LinkPredictor();
        x.type(1, 1, 0, 9, 0);
        x.type(2, 0, 1, 8, 0);
        CHECKS.due("d first", told(x, Sorts.TYPE, 1, 2, 0), Sorts.MISSING + 9);
        x.type(9, 1, 0, 0, 0);
        CHECKS.due("then r", told(x, Sorts.TYPE, 1, 2, 0), Sorts.MISSING + 8);
        x.type(8, 1, 0, 0, 0);
        CHECKS.due("then BARRED", told(x, Sorts.TYPE, 1, 2, 0), Sorts.BARRED + 2);
        CHECKS.due("BARRED before the look-up", told(x, Sorts.GET, 1, 2, 0), Sorts.BARRED + 2);
        CHECKS.due("BARRED before CHANGED r", told(x, Sorts.FACE, 1, 2, 0), Sorts.BARRED + 2);
        x.type(2, 0, 0, 8, 0);
        CHECKS.due("the same PACKAGE", told(x, Sorts.TYPE, 1, 2, 14), 2);
        x.type(2, 1, 3, 8, 0);
        CHECKS.due("PUBLIC", told(x, Sorts.TYPE, 1, 2, 14), 2);
        x.type(2, 14, 0, 8, 0);
        CHECKS.due("an INTERFACE with a SUPER", told(x, Sorts.TYPE, 1, 2, 0), Sorts.CHANGED + 2);
        x.type(3, 1, 0, 0, 1 << 3);
        CHECKS.due("d is CIRCULAR", told(x, Sorts.TYPE, 3, 0, 0), Sorts.CIRCULAR + 3);
        CHECKS.due("r is CIRCULAR", told(x, Sorts.PUT, 0, 3, 0), Sorts.CIRCULAR + 3);
    }

    private static void fieldsAreFoundInOrder() {
        LinkPredictor x = new LinkPredictor();
        x.type(9, 1, 0, 0, 0);
        x.type(8, 3, 0, 0, 0);
        x.type(7, 3, 0, 0, 1 << 8);
        x.type(6, 3, 0, 0, 0);
        x.type(5, 1, 0, 9, 1 << 6 | 1 << 7);
        CHECKS.due("none", told(x, Sorts.GET, 0, 5, 4), Sorts.NO_FIELD + 5);
        x.member(5, true, 4, Sorts.PUBLIC, 0);
        CHECKS.due("a METHOD is no FIELD", told(x, Sorts.GET, 0, 5, 4), Sorts.NO_FIELD + 5);
        x.member(5, false, 5, Sorts.PUBLIC, 0);
        x.member(5, false, 7, Sorts.PUBLIC, 0);
        CHECKS.due("NAME and SHAPE", told(x, Sorts.GET, 0, 5, 4), Sorts.NO_FIELD + 5);
        x.member(9, false, 4, Sorts.PUBLIC, 0);
        CHECKS.due("SUPER", told(x, Sorts.GET, 0, 5, 4), Sorts.M + 3);
        x.member(8, false, 4, Sorts.PUBLIC, 0);
        CHECKS.due("a FACE of a FACE before SUPER", told(x, Sorts.GET, 0, 5, 4), Sorts.M + 4);
        x.member(7, false, 4, Sorts.PUBLIC, 0);
        CHECKS.due("FACE 7", told(x, Sorts.GET, 0, 5, 4), Sorts.M + 5);
        x.member(6, false, 4, Sorts.PUBLIC, 0);
        CHECKS.due("FACE 6 before FACE 7", told(x, Sorts.GET, 0, 5, 4), Sorts.M + 6);
        x.member(5, false, 4, Sorts.PUBLIC, 0);
        CHECKS.due("itself", told(x, Sorts.GET, 0, 5, 4), Sorts.M + 7);
        CHECKS.due("by way of 7", told(x, Sorts.GET, 0, 7, 4), Sorts.M + 5);
        x.remove(7);
        x.remake(6, Sorts.PRIVATE, 0);
        CHECKS.due("BARRED: no other is FOUND then", told(x, Sorts.GET, 0, 5, 4), Sorts.BARRED + Sorts.M + 6);
    }

    private static void fieldOfTheRootByWayOfAFace() {
        LinkPredictor x = new LinkPredictor();
        x.type(1, 3, 0, 0, 0);
        x.type(2, 1, 0, 0, 0);
        x.type(3, 1, 0, 2, 1 << 1);
        x.member(0, false, 0, Sorts.PUBLIC, 0);
        x.member(2, false, 0, Sorts.PUBLIC, 0);
        CHECKS.due("FOUND in the FACE's SUPER", told(x, Sorts.GET, 0, 3, 0), Sorts.M);
        x.remove(0);
        CHECKS.due("then in the SUPER", told(x, Sorts.GET, 0, 3, 0), Sorts.M + 1);
    }

    private static void methodsOfClasses() {
        LinkPredictor x = new LinkPredictor();
        x.type(1, 1, 0, 0, 0);
        x.type(2, 1, 0, 1, 1 << 4);
        x.type(4, 3, 0, 0, 0);
        CHECKS.due("none", told(x, Sorts.VIRTUAL, 0, 2, 3), Sorts.NO_METHOD + 2);
        x.member(2, false, 3, Sorts.PUBLIC, 0);
        CHECKS.due("a FIELD is no METHOD", told(x, Sorts.VIRTUAL, 0, 2, 3), Sorts.NO_METHOD + 2);
        x.member(4, true, 3, Sorts.PUBLIC, 0);
        CHECKS.due("a FACE has one", told(x, Sorts.VIRTUAL, 0, 2, 3), Sorts.M + 1);
        x.member(0, true, 3, Sorts.PRIVATE, Sorts.STATIC);
        CHECKS.due("the ROOT before FACES, whatever it is", told(x, Sorts.CALL_STATIC, 0, 2, 3), Sorts.M + 2);
        CHECKS.due("and not as VIRTUAL", told(x, Sorts.VIRTUAL, 0, 2, 3), Sorts.CHANGED + Sorts.M + 2);
        x.member(1, true, 3, Sorts.PUBLIC, Sorts.ABSTRACT);
        CHECKS.due("SUPER before its SUPER", told(x, Sorts.VIRTUAL, 0, 2, 3), Sorts.M + 3);
        x.member(2, true, 3, Sorts.PRIVATE, 0);
        CHECKS.due("itself, though BARRED", told(x, Sorts.VIRTUAL, 0, 2, 3), Sorts.BARRED + Sorts.M + 4);
    }

    private static void methodsOfInterfaces() {
        LinkPredictor x = new LinkPredictor();
        x.type(1, 3, 0, 0, 0);
        x.type(2, 3, 0, 0, 1 << 1);
        CHECKS.due("none", told(x, Sorts.FACE, 0, 2, 3), Sorts.NO_METHOD + 2);
        x.member(1, true, 3, Sorts.PUBLIC, 0);
        CHECKS.due("of a FACE", told(x, Sorts.FACE, 0, 2, 3), Sorts.M);
        x.member(0, true, 3, Sorts.PUBLIC, 0);
        CHECKS.due("the ROOT before FACES", told(x, Sorts.FACE, 0, 2, 3), Sorts.M + 1);
        x.remake(1, Sorts.PUBLIC, Sorts.STATIC);
        CHECKS.due("not a STATIC one", told(x, Sorts.FACE, 0, 2, 3), Sorts.M);
        CHECKS.due("not even for STATIC", told(x, Sorts.CALL_STATIC, 0, 2, 3), Sorts.CHANGED + Sorts.M);
        x.remake(1, Sorts.PROTECTED, 0);
        CHECKS.due("only a PUBLIC one", told(x, Sorts.FACE, 0, 2, 3), Sorts.M);
        x.remove(0);
        CHECKS.due("and then none", told(x, Sorts.FACE, 0, 2, 3), Sorts.NO_METHOD + 2);
        x.remake(1, Sorts.PUBLIC, 0);
        x.member(2, true, 3, Sorts.PRIVATE, Sorts.STATIC);
        CHECKS.due("itself first, whatever it is", told(x, Sorts.CALL_STATIC, 2, 2, 3), Sorts.M + 2);
        CHECKS.due("itself first", told(x, Sorts.FACE, 0, 2, 3), Sorts.BARRED + Sorts.M + 2);
    }

    private static void kindsFitInterfaces() {
        LinkPredictor x = new LinkPredictor();
        x.type(1, 3, 0, 0, 0);
        x.type(2, 1, 0, 0, 1 << 1);
        x.member(1, true, 0, Sorts.PUBLIC, 0);
        x.member(2, true, 0, Sorts.PUBLIC, 0);
        CHECKS.due("VIRTUAL of an INTERFACE", told(x, Sorts.VIRTUAL, 0, 1, 0), Sorts.CHANGED + 1);
        CHECKS.due("before NO METHOD", told(x, Sorts.VIRTUAL, 0, 1, 9), Sorts.CHANGED + 1);
        CHECKS.due("FACE of none", told(x, Sorts.FACE, 0, 2, 0), Sorts.CHANGED + 2);
        CHECKS.due("before NO METHOD", told(x, Sorts.FACE, 0, 2, 9), Sorts.CHANGED + 2);
        CHECKS.due("SPECIAL of an INTERFACE", told(x, Sorts.SPECIAL, 2, 1, 0), Sorts.M);
        CHECKS.due("SPECIAL of a class", told(x, Sorts.SPECIAL, 2, 2, 0), Sorts.M + 1);
        x.remake(0, Sorts.PUBLIC, Sorts.STATIC);
        x.remake(1, Sorts.PUBLIC, Sorts.STATIC);
        CHECKS.due("STATIC of an INTERFACE", told(x, Sorts.CALL_STATIC, 0, 1, 0), Sorts.M);
        CHECKS.due("STATIC of a class", told(x, Sorts.CALL_STATIC, 0, 2, 0), Sorts.M + 1);
        CHECKS.due("of the ROOT", told(x, Sorts.FACE, 0, 0, 0), Sorts.CHANGED);
    }

    /** 3 and 4 lie under 1, 5 has both of them; 6 is a class below that. */
    private static LinkPredictor diamond() {
        LinkPredictor x = new LinkPredictor();
        x.type(1, 3, 0, 0, 0);
        x.type(3, 3, 0, 0, 1 << 1);
        x.type(4, 3, 0, 0, 1 << 1);
        x.type(5, 5, 0, 0, 1 << 3 | 1 << 4);
        x.type(6, 1, 0, 5, 0);
        return x;
    }

    private static void bestOfTheFaces() {
        LinkPredictor x = diamond();
        x.member(1, true, 0, Sorts.PUBLIC, 0);
        CHECKS.due("one alone", told(x, Sorts.VIRTUAL, 0, 6, 0), Sorts.M);
        x.member(4, true, 0, Sorts.PUBLIC, 0);
        CHECKS.due("4 lies under 1", told(x, Sorts.VIRTUAL, 0, 6, 0), Sorts.M + 1);
        x.remake(1, Sorts.PUBLIC, Sorts.ABSTRACT);
        CHECKS.due("ABSTRACT: the least number", told(x, Sorts.VIRTUAL, 0, 6, 0), Sorts.M);
        x.member(3, true, 0, Sorts.PUBLIC, 0);
        CHECKS.due("one of two has a body", told(x, Sorts.VIRTUAL, 0, 6, 0), Sorts.M + 2);
        x.remake(1, Sorts.PUBLIC, 0);
        CHECKS.due("both have one: the least number", told(x, Sorts.VIRTUAL, 0, 6, 0), Sorts.M);
        x.remove(0);
        CHECKS.due("the least that is left", told(x, Sorts.VIRTUAL, 0, 6, 0), Sorts.M + 1);
        x.remake(1, Sorts.PUBLIC, Sorts.ABSTRACT);
        x.remake(2, Sorts.PUBLIC, Sorts.ABSTRACT);
        CHECKS.due("none has one", told(x, Sorts.VIRTUAL, 0, 6, 0), Sorts.M + 1);
    }

    private static void leastOfAllThatFacesHave() {
        LinkPredictor x = diamond();
        x.member(4, true, 0, Sorts.PUBLIC, 0);
        x.member(3, true, 0, Sorts.PUBLIC, 0);
        x.member(1, true, 0, Sorts.PUBLIC, Sorts.ABSTRACT);
        CHECKS.due("the MEMBER's number, not the TYPE's", told(x, Sorts.VIRTUAL, 0, 5, 0), Sorts.M);
        x.remake(0, Sorts.PRIVATE, 0);
        CHECKS.due("PRIVATE is left out", told(x, Sorts.VIRTUAL, 0, 5, 0), Sorts.M + 1);
        x.remake(1, Sorts.PUBLIC, Sorts.STATIC);
        CHECKS.due("STATIC is left out", told(x, Sorts.VIRTUAL, 0, 5, 0), Sorts.M + 2);
        x.remake(2, Sorts.PRIVATE, 0);
        CHECKS.due("none is left", told(x, Sorts.VIRTUAL, 0, 5, 0), Sorts.NO_METHOD + 5);
    }

    private static void mostSpecificLeavesOut() {
        LinkPredictor x = diamond();
        x.type(7, 3, 0, 0, 1 << 3);
        x.type(8, 1, 0, 6, 1 << 7);
        x.member(1, true, 0, Sorts.PUBLIC, 0);
        x.member(7, true, 0, Sorts.PUBLIC, 0);
        CHECKS.due("under it by way of 3, which has none", told(x, Sorts.VIRTUAL, 0, 8, 0), Sorts.M + 1);
        CHECKS.due("7 is no FACE of 6", told(x, Sorts.VIRTUAL, 0, 6, 0), Sorts.M);
        x.remake(1, Sorts.PRIVATE, 0);
        CHECKS.due("what is left out covers nothing", told(x, Sorts.VIRTUAL, 0, 8, 0), Sorts.M);
        x.remake(1, Sorts.PACKAGE, 0);
        CHECKS.due("PACKAGE is not left out", told(x, Sorts.VIRTUAL, 0, 8, 0), Sorts.M + 1);
    }

    private static void staticOrNot() {
        LinkPredictor x = new LinkPredictor();
        x.type(1, 3, 0, 0, 0);
        for (int t = 0; t < 2; t++) {
            x.member(t, false, 0, Sorts.PUBLIC, 0);
            x.member(t, false, 1, Sorts.PUBLIC, Sorts.STATIC);
            x.member(t, true, 0, Sorts.PUBLIC, 0);
            x.member(t, true, 1, Sorts.PUBLIC, Sorts.STATIC);
        }
        int[] needsStatic = {0, 0, 1, 1, 0, 0, 1, 0};
        for (int kind = 0; kind < 8; kind++) {
            int t = kind == Sorts.FACE ? 1 : 0;
            for (int sign = 0; sign < 2; sign++) {
                int m = Sorts.M + 4 * t + (kind >= 4 ? 2 : 0) + sign;
                int due = needsStatic[kind] == sign ? m : Sorts.CHANGED + m;
                CHECKS.due("kind " + kind + " sign " + sign, told(x, kind, t, t, sign), due);
            }
        }
    }

    private static void putOfFinal() {
        LinkPredictor x = new LinkPredictor();
        x.type(1, 1, 0, 0, 0);
        x.type(2, 1, 0, 1, 0);
        x.nest(2, 1);
        x.member(1, false, 0, Sorts.PUBLIC, Sorts.FINAL);
        x.member(1, false, 1, Sorts.PUBLIC, Sorts.FINAL | Sorts.STATIC);
        x.member(1, true, 0, Sorts.PUBLIC, Sorts.FINAL);
        CHECKS.due("PUT by its TYPE", told(x, Sorts.PUT, 1, 1, 0), Sorts.M);
        CHECKS.due("PUT by its TYPE, named by way of 2", told(x, Sorts.PUT, 1, 2, 0), Sorts.M);
        CHECKS.due("PUT by another one", told(x, Sorts.PUT, 2, 1, 0), Sorts.BARRED + Sorts.M);
        CHECKS.due("PUT by r", told(x, Sorts.PUT, 2, 2, 0), Sorts.BARRED + Sorts.M);
        CHECKS.due("GET by another one", told(x, Sorts.GET, 2, 1, 0), Sorts.M);
        CHECKS.due("STATIC by its TYPE", told(x, Sorts.PUT_STATIC, 1, 1, 1), Sorts.M + 1);
        CHECKS.due("STATIC by another one", told(x, Sorts.PUT_STATIC, 2, 1, 1), Sorts.BARRED + Sorts.M + 1);
        CHECKS.due("CHANGED before BARRED", told(x, Sorts.PUT, 2, 1, 1), Sorts.CHANGED + Sorts.M + 1);
        x.member(1, false, 2, Sorts.PUBLIC, 0);
        x.member(1, false, 3, Sorts.PUBLIC, Sorts.STATIC);
        CHECKS.due("PUT of one that is not FINAL", told(x, Sorts.PUT, 2, 1, 2), Sorts.M + 3);
        CHECKS.due("STATIC, not FINAL", told(x, Sorts.PUT_STATIC, 2, 1, 3), Sorts.M + 4);
        CHECKS.due("a FINAL METHOD", told(x, Sorts.VIRTUAL, 2, 1, 0), Sorts.M + 2);
    }

    private static void special() {
        LinkPredictor x = new LinkPredictor();
        x.type(1, 1, 0, 0, 1 << 4);
        x.type(2, 1, 0, 1, 0);
        x.type(3, 1, 0, 0, 0);
        x.type(4, 3, 0, 0, 0);
        x.member(1, true, 0, Sorts.PUBLIC, 0);
        x.member(4, true, 1, Sorts.PUBLIC, 0);
        CHECKS.due("itself", told(x, Sorts.SPECIAL, 1, 1, 0), Sorts.M);
        CHECKS.due("d UNDER r", told(x, Sorts.SPECIAL, 2, 1, 0), Sorts.M);
        CHECKS.due("r UNDER d", told(x, Sorts.SPECIAL, 1, 2, 0), Sorts.CHANGED + 2);
        CHECKS.due("neither", told(x, Sorts.SPECIAL, 3, 1, 0), Sorts.CHANGED + 1);
        CHECKS.due("UNDER a FACE", told(x, Sorts.SPECIAL, 2, 4, 1), Sorts.M + 1);
        x.remake(1, Sorts.PUBLIC, Sorts.ABSTRACT);
        CHECKS.due("UNDER a FACE, ABSTRACT", told(x, Sorts.SPECIAL, 2, 4, 1), Sorts.CUT + Sorts.M + 1);
        x.remake(0, Sorts.PUBLIC, Sorts.ABSTRACT);
        CHECKS.due("ABSTRACT", told(x, Sorts.SPECIAL, 2, 1, 0), Sorts.CUT + Sorts.M);
        CHECKS.due("CHANGED r before CUT", told(x, Sorts.SPECIAL, 3, 1, 0), Sorts.CHANGED + 1);
        CHECKS.due("VIRTUAL of an ABSTRACT one", told(x, Sorts.VIRTUAL, 2, 1, 0), Sorts.M);
        x.remake(0, Sorts.PUBLIC, Sorts.STATIC | Sorts.ABSTRACT);
        CHECKS.due("CHANGED m before CHANGED r", told(x, Sorts.SPECIAL, 3, 1, 0), Sorts.CHANGED + Sorts.M);
        CHECKS.due("STATIC and ABSTRACT", told(x, Sorts.CALL_STATIC, 3, 1, 0), Sorts.M);
    }

    private static void orderOfChecks() {
        LinkPredictor x = new LinkPredictor();
        x.type(1, 1, 0, 0, 0);
        x.type(2, 1, 0, 0, 0);
        x.member(1, false, 0, Sorts.PRIVATE, Sorts.STATIC | Sorts.FINAL);
        x.member(1, true, 0, Sorts.PRIVATE, Sorts.STATIC);
        CHECKS.due("ACCESS before STATIC", told(x, Sorts.PUT, 2, 1, 0), Sorts.BARRED + Sorts.M);
        CHECKS.due("ACCESS before STATIC", told(x, Sorts.VIRTUAL, 2, 1, 0), Sorts.BARRED + Sorts.M + 1);
        CHECKS.due("ACCESS before UNDER", told(x, Sorts.SPECIAL, 2, 1, 0), Sorts.BARRED + Sorts.M + 1);
        x.nest(2, 1);
        CHECKS.due("then STATIC", told(x, Sorts.PUT, 2, 1, 0), Sorts.CHANGED + Sorts.M);
    }
}
