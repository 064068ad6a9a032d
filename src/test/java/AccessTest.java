/** Promise 19, and the rest of ACCESS and THE NEST as RESOLVING tells them. */
public final class AccessTest {
    private static final Checks CHECKS = new Checks("AccessTest");

    public static void main(String[] args) {
        publicAndPackage();
        protectedOfAnotherPackage();
        protectedOfTheSamePackage();
        protectedOfAFace();
        privateInTheNest();
        privateWithoutANest();
        hostsThatHaveFaults();
        CHECKS.end();
    }

    private static int told(LinkPredictor x, int kind, int d, int r, int sign) {
        x.forget();
        return x.resolve(0, x.refer(kind, d, r, sign));
    }

    private static void publicAndPackage() {
        LinkPredictor x = new LinkPredictor();
        x.type(1, 1, 1, 0, 0);
        x.type(2, 1, 2, 1, 0);
        x.type(3, 1, 1, 0, 0);
        x.member(1, true, 0, Sorts.PUBLIC, 0);
        x.member(1, true, 1, Sorts.PACKAGE, 0);
        CHECKS.due("PUBLIC", told(x, Sorts.VIRTUAL, 2, 1, 0), Sorts.M);
        CHECKS.due("PACKAGE of another", told(x, Sorts.VIRTUAL, 2, 1, 1), Sorts.BARRED + Sorts.M + 1);
        CHECKS.due("PACKAGE of the same", told(x, Sorts.VIRTUAL, 3, 1, 1), Sorts.M + 1);
        CHECKS.due("the MEMBER's TYPE counts, not r", told(x, Sorts.VIRTUAL, 3, 2, 1), Sorts.M + 1);
        CHECKS.due("nor is d's being below enough", told(x, Sorts.VIRTUAL, 2, 2, 1), Sorts.BARRED + Sorts.M + 1);
    }

    /** 1 of PACKAGE 1 has the MEMBERS; 2, 3 (under 2) and 4 lie under it in other PACKAGES; 5 does not. */
    private static LinkPredictor family() {
        LinkPredictor x = new LinkPredictor();
        x.type(1, 1, 1, 0, 0);
        x.type(2, 1, 2, 1, 0);
        x.type(3, 1, 3, 2, 0);
        x.type(4, 1, 3, 1, 0);
        x.type(5, 1, 2, 0, 0);
        x.type(6, 1, 1, 0, 0);
        x.member(1, true, 0, Sorts.PROTECTED, 0);
        x.member(1, true, 1, Sorts.PROTECTED, Sorts.STATIC);
        x.member(1, false, 0, Sorts.PROTECTED, 0);
        return x;
    }

    private static void protectedOfAnotherPackage() {
        LinkPredictor x = family();
        int barred = Sorts.BARRED + Sorts.M;
        CHECKS.due("d itself", told(x, Sorts.VIRTUAL, 2, 2, 0), Sorts.M);
        CHECKS.due("r UNDER d", told(x, Sorts.VIRTUAL, 2, 3, 0), Sorts.M);
        CHECKS.due("d UNDER r", told(x, Sorts.VIRTUAL, 2, 1, 0), Sorts.M);
        CHECKS.due("d far UNDER r", told(x, Sorts.VIRTUAL, 3, 1, 0), Sorts.M);
        CHECKS.due("neither", told(x, Sorts.VIRTUAL, 2, 4, 0), barred);
        CHECKS.due("neither, the other way", told(x, Sorts.VIRTUAL, 4, 3, 0), barred);
        CHECKS.due("STATIC", told(x, Sorts.CALL_STATIC, 2, 4, 1), Sorts.M + 1);
        CHECKS.due("d not UNDER c", told(x, Sorts.VIRTUAL, 5, 1, 0), barred);
        CHECKS.due("d not UNDER c, STATIC", told(x, Sorts.CALL_STATIC, 5, 1, 1), barred + 1);
        CHECKS.due("the ROOT is not UNDER c, though r is UNDER it", told(x, Sorts.VIRTUAL, 0, 2, 0), barred);
        CHECKS.due("FIELD, r UNDER d", told(x, Sorts.GET, 2, 3, 0), Sorts.M + 2);
        CHECKS.due("FIELD, neither", told(x, Sorts.GET, 2, 4, 0), barred + 2);
    }

    private static void protectedOfTheSamePackage() {
        LinkPredictor x = family();
        CHECKS.due("not UNDER c", told(x, Sorts.VIRTUAL, 6, 1, 0), Sorts.M);
        CHECKS.due("by way of another PACKAGE", told(x, Sorts.VIRTUAL, 6, 4, 0), Sorts.M);
        CHECKS.due("STATIC", told(x, Sorts.CALL_STATIC, 6, 4, 1), Sorts.M + 1);
    }

    private static void protectedOfAFace() {
        LinkPredictor x = new LinkPredictor();
        x.type(1, 3, 1, 0, 0);
        x.type(2, 1, 2, 0, 1 << 1);
        x.member(1, true, 0, Sorts.PROTECTED, 0);
        x.member(0, true, 1, Sorts.PROTECTED, 0);
        CHECKS.due("c is a FACE, none of the ABOVE", told(x, Sorts.VIRTUAL, 2, 2, 0), Sorts.BARRED + Sorts.M);
        CHECKS.due("by FACE", told(x, Sorts.FACE, 2, 1, 0), Sorts.BARRED + Sorts.M);
        CHECKS.due("c is the ROOT", told(x, Sorts.VIRTUAL, 2, 2, 1), Sorts.M + 1);
        x.type(2, 1, 1, 0, 1 << 1);
        CHECKS.due("the same PACKAGE", told(x, Sorts.FACE, 2, 1, 0), Sorts.M);
    }

    private static void privateInTheNest() {
        LinkPredictor x = new LinkPredictor();
        for (int t = 1; t <= 3; t++) {
            x.type(t, 1, 1, 0, 0);
            x.member(t, true, 0, Sorts.PRIVATE, 0);
        }
        CHECKS.due("itself", told(x, Sorts.VIRTUAL, 1, 1, 0), Sorts.M);
        CHECKS.due("each its own NEST", told(x, Sorts.VIRTUAL, 2, 1, 0), Sorts.BARRED + Sorts.M);
        x.nest(2, 1);
        CHECKS.due("the HOST's, from inside", told(x, Sorts.VIRTUAL, 2, 1, 0), Sorts.M);
        CHECKS.due("the inner one's, from the HOST", told(x, Sorts.VIRTUAL, 1, 2, 0), Sorts.M + 1);
        CHECKS.due("3 is outside", told(x, Sorts.VIRTUAL, 3, 2, 0), Sorts.BARRED + Sorts.M + 1);
        x.nest(3, 1);
        CHECKS.due("two inner ones", told(x, Sorts.VIRTUAL, 3, 2, 0), Sorts.M + 1);
        x.nest(3, 2);
        CHECKS.due("2 is not its own HOST", told(x, Sorts.VIRTUAL, 3, 2, 0), Sorts.BARRED + Sorts.M + 1);
        x.type(3, 1, 0, 0, 0);
        x.nest(3, 0);
        x.member(0, false, 0, Sorts.PRIVATE, 0);
        CHECKS.due("the ROOT as HOST", told(x, Sorts.GET, 3, 0, 0), Sorts.M + 3);
        x.type(3, 1, 1, 0, 0);
        x.nest(3, 0);
        CHECKS.due("of another PACKAGE", told(x, Sorts.GET, 3, 0, 0), Sorts.BARRED + Sorts.M + 3);
    }

    private static void privateWithoutANest() {
        LinkPredictor x = new LinkPredictor();
        x.type(1, 1, 1, 0, 0);
        x.type(2, 1, 1, 1, 0);
        x.member(1, true, 0, Sorts.PRIVATE, 0);
        CHECKS.due("being below is not enough", told(x, Sorts.VIRTUAL, 2, 1, 0), Sorts.BARRED + Sorts.M);
        CHECKS.due("named by way of 2, from 1", told(x, Sorts.VIRTUAL, 1, 2, 0), Sorts.M);
    }

    private static void hostsThatHaveFaults() {
        LinkPredictor x = new LinkPredictor();
        x.type(1, 1, 1, 0, 0);
        x.type(2, 1, 1, 0, 0);
        x.member(1, true, 0, Sorts.PRIVATE, 0);
        x.nest(1, 3);
        x.nest(2, 3);
        CHECKS.due("the HOST is not THERE", told(x, Sorts.VIRTUAL, 2, 1, 0), Sorts.BARRED + Sorts.M);
        x.type(3, 1, 1, 9, 0);
        CHECKS.due("THERE is enough, it need not be LOADED", told(x, Sorts.VIRTUAL, 2, 1, 0), Sorts.M);
        x.type(3, 1, 2, 0, 0);
        CHECKS.due("of another PACKAGE", told(x, Sorts.VIRTUAL, 2, 1, 0), Sorts.BARRED + Sorts.M);
        x.type(3, 1, 1, 0, 0);
        CHECKS.due("good again", told(x, Sorts.VIRTUAL, 2, 1, 0), Sorts.M);
        x.nest(3, 1);
        CHECKS.due("not its own HOST", told(x, Sorts.VIRTUAL, 2, 1, 0), Sorts.BARRED + Sorts.M);
        x.drop(3);
        CHECKS.due("dropped", told(x, Sorts.VIRTUAL, 2, 1, 0), Sorts.BARRED + Sorts.M);
    }
}
