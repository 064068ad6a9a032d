/** The edges of promise 19 and of what it rests on, sentence by sentence: ACCESS and THE NEST. */
public final class AccessBoundsTest {
    private static final Checks CHECKS = new Checks("AccessBoundsTest");

    public static void main(String[] args) {
        publicFromEverywhere();
        protectedBelow();
        protectedOfAnotherPackage();
        protectedStatic();
        protectedOfAFace();
        protectedOfTheRoot();
        protectedAndPackageInThePackage();
        privateInTheNest();
        nestIsTheHost();
        hostIsNotThere();
        hostOfAnotherPackage();
        hostIsNotItsOwn();
        nestsOfEveryPair();
        barredBlamesTheMember();
        CHECKS.end();
    }

    private static int told(LinkPredictor x, int kind, int d, int r, int sign) {
        x.forget();
        return x.resolve(0, x.refer(kind, d, r, sign));
    }

    /**
     * 1 of PACKAGE 1 has a METHOD, a STATIC METHOD and a FIELD with this ACCESS; 2 and 4 lie under it in PACKAGES 2
     * and 3, 3 lies under 2 in PACKAGE 3; 5 of PACKAGE 2 and 6 of PACKAGE 1 do not lie under it.
     */
    private static LinkPredictor family(int access) {
        LinkPredictor x = new LinkPredictor();
        x.type(1, 1, 1, 0, 0);
        x.type(2, 1, 2, 1, 0);
        x.type(3, 1, 3, 2, 0);
        x.type(4, 1, 3, 1, 0);
        x.type(5, 1, 2, 0, 0);
        x.type(6, 1, 1, 0, 0);
        x.member(1, true, 0, access, 0);
        x.member(1, true, 1, access, Sorts.STATIC);
        x.member(1, false, 0, access, 0);
        x.member(1, false, 1, access, Sorts.STATIC);
        return x;
    }

    /** A row for each d from 0 to 6, a letter for each r from 1 to 4: G for GOOD, B for BARRED. */
    private static void family(int access, String[] plain, String[] ofStatic) {
        LinkPredictor x = family(access);
        int[] kinds = {Sorts.VIRTUAL, Sorts.CALL_STATIC, Sorts.GET, Sorts.GET_STATIC};
        for (int m = 0; m < 4; m++) {
            String[] rows = m % 2 == 1 ? ofStatic : plain;
            for (int d = 0; d <= 6; d++) {
                for (int r = 1; r <= 4; r++) {
                    int due = Sorts.M + m + (rows[d].charAt(r - 1) == 'G' ? 0 : Sorts.BARRED);
                    CHECKS.due("MEMBER " + m + " from " + d + " by " + r, told(x, kinds[m], d, r, m % 2), due);
                }
            }
        }
    }

    private static void publicFromEverywhere() {
        CHECKS.sentence("it is GOOD if m is PUBLIC");
        String[] all = {"GGGG", "GGGG", "GGGG", "GGGG", "GGGG", "GGGG", "GGGG"};
        family(Sorts.PUBLIC, all, all);
    }

    private static void protectedBelow() {
        CHECKS.sentence("or PROTECTED, and d is UNDER c with c one of its ABOVE, and m is STATIC, or r is UNDER d,"
                + " or d is UNDER r");
        // A ladder of PACKAGES 1 and 2 in turn: from every d by way of every r that names what TYPE 5 has.
        for (int d = 0; d <= 11; d++) {
            LinkPredictor x = new LinkPredictor();
            for (int t = 1; t <= 11; t++) {
                x.type(t, 1, 1 + t % 2, t - 1, 0);
            }
            x.member(5, true, 0, Sorts.PROTECTED, 0);
            for (int r = 5; r <= 11; r++) {
                boolean good = d >= 5 || d % 2 == 1;
                CHECKS.due("from " + d + " by " + r, told(x, Sorts.VIRTUAL, d, r, 0),
                        good ? Sorts.M : Sorts.BARRED + Sorts.M);
            }
        }
    }

    private static void protectedOfAnotherPackage() {
        CHECKS.sentence("ACCESS to a PROTECTED MEMBER of another PACKAGE: d must be UNDER c with c one of its ABOVE,"
                + " and besides that one of these must hold: m is STATIC, r is UNDER d, d is UNDER r.");
        String[] plain = {"BBBB", "GGGG", "GGGB", "GGGB", "GBBG", "BBBB", "GGGG"};
        String[] ofStatic = {"BBBB", "GGGG", "GGGG", "GGGG", "GGGG", "BBBB", "GGGG"};
        family(Sorts.PROTECTED, plain, ofStatic);
    }

    private static void protectedStatic() {
        CHECKS.sentence("one of these must hold: m is STATIC, r is UNDER d, d is UNDER r.");
        LinkPredictor x = family(Sorts.PROTECTED);
        int barred = Sorts.BARRED + Sorts.M + 1;
        CHECKS.due("STATIC is not enough from the ROOT", told(x, Sorts.CALL_STATIC, 0, 1, 1), barred);
        CHECKS.due("nor from 5", told(x, Sorts.CALL_STATIC, 5, 1, 1), barred);
        CHECKS.due("ACCESS before STATIC", told(x, Sorts.VIRTUAL, 5, 1, 1), barred);
        CHECKS.due("from 2 by 4: ACCESS, but STATIC", told(x, Sorts.VIRTUAL, 2, 4, 1), Sorts.CHANGED + Sorts.M + 1);
        CHECKS.due("from 2 by 4: none", told(x, Sorts.CALL_STATIC, 2, 4, 0), Sorts.BARRED + Sorts.M);
    }

    private static void protectedOfAFace() {
        CHECKS.sentence("d must be UNDER c with c one of its ABOVE");
        LinkPredictor x = new LinkPredictor();
        x.type(1, 3, 1, 0, 0);
        x.type(2, 1, 2, 0, 1 << 1);
        x.type(3, 3, 2, 0, 1 << 1);
        x.member(1, true, 0, Sorts.PROTECTED, 0);
        x.member(1, false, 0, Sorts.PROTECTED, 0);
        x.member(1, true, 1, Sorts.PROTECTED, Sorts.STATIC);
        int barred = Sorts.BARRED + Sorts.M;
        CHECKS.due("UNDER c, but c is a FACE", told(x, Sorts.VIRTUAL, 2, 2, 0), barred);
        CHECKS.due("by way of c", told(x, Sorts.FACE, 2, 1, 0), barred);
        CHECKS.due("an INTERFACE under it", told(x, Sorts.FACE, 3, 3, 0), barred);
        CHECKS.due("a FIELD", told(x, Sorts.GET, 2, 2, 0), barred + 1);
        CHECKS.due("STATIC", told(x, Sorts.CALL_STATIC, 2, 1, 1), barred + 2);
        CHECKS.due("c itself", told(x, Sorts.FACE, 1, 1, 0), Sorts.M);
    }

    private static void protectedOfTheRoot() {
        CHECKS.sentence("d must be UNDER c with c one of its ABOVE");
        LinkPredictor x = new LinkPredictor();
        x.type(1, 1, 1, 0, 0);
        x.type(2, 1, 1, 0, 0);
        x.type(3, 3, 1, 0, 0);
        x.member(0, true, 0, Sorts.PROTECTED, 0);
        CHECKS.due("d itself", told(x, Sorts.VIRTUAL, 1, 1, 0), Sorts.M);
        CHECKS.due("d UNDER r", told(x, Sorts.VIRTUAL, 1, 0, 0), Sorts.M);
        CHECKS.due("neither", told(x, Sorts.VIRTUAL, 1, 2, 0), Sorts.BARRED + Sorts.M);
        CHECKS.due("the ROOT is one of the ABOVE of an INTERFACE", told(x, Sorts.VIRTUAL, 3, 0, 0), Sorts.M);
        x.type(4, 1, 1, 1, 1 << 3);
        CHECKS.due("r UNDER d, d a FACE", told(x, Sorts.VIRTUAL, 3, 4, 0), Sorts.M);
    }

    private static void protectedAndPackageInThePackage() {
        CHECKS.sentence("or PROTECTED or PACKAGE, and the PACKAGES of c and d are the same");
        String[] rows = {"BBBB", "GGGG", "BBBB", "BBBB", "BBBB", "BBBB", "GGGG"};
        family(Sorts.PACKAGE, rows, rows);
        for (int access = 0; access <= 3; access++) {
            for (int p = 0; p <= 3; p++) {
                for (int q = 0; q <= 3; q++) {
                    LinkPredictor x = new LinkPredictor();
                    x.type(10, 1, p, 0, 0);
                    x.type(11, 1, q, 0, 0);
                    x.member(10, true, 0, access, 0);
                    boolean good = access == 3 || access != 0 && p == q;
                    CHECKS.due("access " + access + ", PACKAGES " + p + " and " + q,
                            told(x, Sorts.VIRTUAL, 11, 10, 0), good ? Sorts.M : Sorts.BARRED + Sorts.M);
                }
            }
        }
    }

    private static void privateInTheNest() {
        CHECKS.sentence("or PRIVATE, and the NESTS of c and d are the same. Else BARRED m.");
        String[] rows = {"BBBB", "GGGG", "BBBB", "BBBB", "BBBB", "BBBB", "BBBB"};
        family(Sorts.PRIVATE, rows, rows);
        for (int access = 0; access <= 3; access++) {
            LinkPredictor x = new LinkPredictor();
            x.type(1, 1, 1, 0, 0);
            x.type(2, 1, 1, 0, 0);
            x.nest(2, 1);
            x.member(1, true, 0, access, 0);
            x.member(2, true, 0, access, 0);
            CHECKS.due("the HOST's from inside", told(x, Sorts.VIRTUAL, 2, 1, 0), Sorts.M);
            CHECKS.due("the inner one's from the HOST", told(x, Sorts.VIRTUAL, 1, 2, 0), Sorts.M + 1);
        }
    }

    private static int nests(LinkPredictor x) {
        return x.count(0, 6);
    }

    private static void nestIsTheHost() {
        CHECKS.sentence("THE NEST of a TYPE t: its HOST h, if h is THERE, of the same PACKAGE, and its own HOST;"
                + " else t itself.");
        LinkPredictor x = new LinkPredictor();
        x.type(9, 0, 3, 0, 0);
        x.type(10, 0, 3, 0, 0);
        x.type(11, 0, 3, 0, 0);
        x.member(9, false, 0, Sorts.PRIVATE, 0);
        CHECKS.due("each its own", nests(x), 0);
        CHECKS.due("BARRED", told(x, Sorts.GET, 10, 9, 0), Sorts.BARRED + Sorts.M);
        x.nest(9, 11);
        x.nest(10, 11);
        CHECKS.due("all three", nests(x), 7 << 9);
        CHECKS.due("two inner ones", told(x, Sorts.GET, 10, 9, 0), Sorts.M);
        CHECKS.due("the HOST", told(x, Sorts.GET, 11, 9, 0), Sorts.M);
        x.nest(10, 10);
        CHECKS.due("two of them", nests(x), 1 << 9 | 1 << 11);
        CHECKS.due("outside", told(x, Sorts.GET, 10, 9, 0), Sorts.BARRED + Sorts.M);
    }

    private static void hostIsNotThere() {
        CHECKS.sentence("its HOST h, if h is THERE");
        LinkPredictor x = new LinkPredictor();
        x.type(1, 1, 0, 0, 0);
        x.type(2, 1, 0, 0, 0);
        x.member(1, false, 0, Sorts.PRIVATE, 0);
        x.nest(1, 11);
        x.nest(2, 11);
        CHECKS.due("never THERE", nests(x), 0);
        CHECKS.due("BARRED", told(x, Sorts.GET, 2, 1, 0), Sorts.BARRED + Sorts.M);
        CHECKS.due("from itself", told(x, Sorts.GET, 1, 1, 0), Sorts.M);
        x.type(11, 1, 0, 11, 0);
        CHECKS.due("THERE, though CIRCULAR", nests(x), 1 << 11 | 0b110);
        CHECKS.due("GOOD", told(x, Sorts.GET, 2, 1, 0), Sorts.M);
        x.drop(11);
        CHECKS.due("dropped", nests(x), 0);
        CHECKS.due("BARRED again", told(x, Sorts.GET, 2, 1, 0), Sorts.BARRED + Sorts.M);
    }

    private static void hostOfAnotherPackage() {
        CHECKS.sentence("its HOST h, if h is THERE, of the same PACKAGE");
        for (int p = 0; p <= 3; p++) {
            for (int q = 0; q <= 3; q++) {
                LinkPredictor x = new LinkPredictor();
                x.type(1, 1, p, 0, 0);
                x.type(11, 1, q, 0, 0);
                x.nest(1, 11);
                x.member(11, false, 0, Sorts.PRIVATE, 0);
                CHECKS.due("NESTS, " + p + " and " + q, nests(x), p == q ? 1 << 11 | 1 << 1 : 0);
                CHECKS.due("GET, " + p + " and " + q, told(x, Sorts.GET, 1, 11, 0),
                        p == q ? Sorts.M : Sorts.BARRED + Sorts.M);
                x.nest(1, 0);
                CHECKS.due("the ROOT, " + p, nests(x), p == 0 ? 0b11 : 0);
            }
        }
    }

    private static void hostIsNotItsOwn() {
        CHECKS.sentence("of the same PACKAGE, and its own HOST; else t itself.");
        LinkPredictor x = new LinkPredictor();
        for (int t = 1; t <= 4; t++) {
            x.type(t, 1, 0, 0, 0);
        }
        x.nest(1, 2);
        x.nest(3, 1);
        x.nest(4, 1);
        CHECKS.due("3 and 4 are each alone", nests(x), 0b110);
        x.nest(2, 1);
        CHECKS.due("HOSTS of one another", nests(x), 0);
        x.nest(1, 11);
        CHECKS.due("a HOST that is not THERE", nests(x), 0);
        x.nest(1, 1);
        CHECKS.due("its own HOST again", nests(x), 0b11110);
    }

    private static void nestsOfEveryPair() {
        CHECKS.sentence("the set of TYPES (bits) that have the same NEST as another one THERE");
        for (int t = 1; t <= 11; t++) {
            for (int h = 0; h <= 11; h++) {
                if (h != t) {
                    LinkPredictor x = new LinkPredictor();
                    for (int u = 1; u <= 11; u++) {
                        x.type(u, 0, 0, 0, 0);
                    }
                    x.nest(t, h);
                    CHECKS.due(t + " in " + h, nests(x), 1 << t | 1 << h);
                    x.drop(t);
                    CHECKS.due("alone again", nests(x), 0);
                }
            }
        }
    }

    private static void barredBlamesTheMember() {
        CHECKS.sentence("(BARRED and CHANGED blame what stands behind them above, a TYPE or a MEMBER.)");
        LinkPredictor x = new LinkPredictor();
        x.type(10, 1, 0, 0, 0);
        x.type(11, 1, 0, 10, 0);
        for (int m = 0; m < 30; m++) {
            x.member(10, m >= 15, m % 15, Sorts.PRIVATE, 0);
        }
        for (int m = 0; m < 30; m++) {
            int kind = m >= 15 ? Sorts.VIRTUAL : Sorts.GET;
            CHECKS.due("MEMBER " + m, told(x, kind, 11, 11, m % 15), Sorts.BARRED + Sorts.M + m);
            int other = m >= 15 ? Sorts.CALL_STATIC : Sorts.GET_STATIC;
            CHECKS.due("MEMBER " + m, told(x, other, 10, 11, m % 15), Sorts.CHANGED + Sorts.M + m);
        }
        x.type(11, 0, 1, 10, 0);
        CHECKS.due("BARRED TYPE", told(x, Sorts.GET, 10, 11, 0), Sorts.BARRED + 11);
        CHECKS.due("CHANGED TYPE", told(x, Sorts.FACE, 11, 11, 0), Sorts.CHANGED + 11);
    }
}
