/** The edges of promise 14, sentence by sentence: select. */
public final class SelectBoundsTest {
    private static final Checks CHECKS = new Checks("SelectBoundsTest");

    public static void main(String[] args) {
        selectForEveryReceiver();
        selectRefusesWrongNumbers();
        selectRefusesNoneSuch();
        noneForOtherKinds();
        noneIfNotGood();
        refusedBeforeNone();
        unfitReceivers();
        unfitNotUnder();
        privateIsItself();
        firstOfTheAbove();
        firstOfALongLadder();
        privateAndStaticArePassed();
        overridesByAccessAndPackage();
        oneOfTheMostSpecific();
        facesWithEveryNumber();
        moreThanOneAndNone();
        abstractIsCut();
        barredForFace();
        CHECKS.end();
    }

    /** 1 is the SUPER of 2, and so on up to 11. */
    private static LinkPredictor ladder() {
        LinkPredictor x = new LinkPredictor();
        for (int t = 1; t <= 11; t++) {
            x.type(t, 1, 0, t - 1, 0);
        }
        return x;
    }

    private static void selectForEveryReceiver() {
        CHECKS.sentence("The VERDICT of SELECTING for a receiver of TYPE c (0 to 11) by REFERENCE i in a BUILD:"
                + " GOOD with what is SELECTED.");
        for (int build = 0; build < 2; build++) {
            LinkPredictor x = ladder();
            x.member(0, true, 0, Sorts.PUBLIC, 0);
            x.branch();
            x.write(build);
            x.member(11, true, 0, Sorts.PUBLIC, 0);
            for (int i = 0; i < 16; i++) {
                x.refer(Sorts.VIRTUAL, 0, 0, 0);
            }
            for (int c = 0; c <= 11; c++) {
                CHECKS.due("this BUILD, " + c, x.select(build, 15, c), c == 11 ? Sorts.M + 1 : Sorts.M);
                CHECKS.due("the other BUILD, " + c, x.select(1 - build, 0, c), Sorts.M);
            }
        }
    }

    private static void selectRefusesWrongNumbers() {
        CHECKS.sentence("REFUSED if a number is not as said, or there is none such; NONE if");
        Refusals.Call select = (x, a) -> x.select(a[0], a[1], a[2]);
        Range[] ranges = {Range.BUILD, new Range(0, 15), Range.TYPE};
        Refusals.everyWrongQuestion(CHECKS, "select", select, LinkPredictor.REFUSED, new int[] {0, 0, 3}, ranges);
        Refusals.everyWrongQuestion(CHECKS, "select", select, LinkPredictor.REFUSED, new int[] {1, 1, 11}, ranges);
    }

    private static void selectRefusesNoneSuch() {
        CHECKS.sentence("REFUSED if a number is not as said, or there is none such");
        LinkPredictor x = new LinkPredictor();
        x.member(0, true, 0, Sorts.PUBLIC, 0);
        for (int many = 0; many <= 16; many++) {
            CHECKS.due("the first that is not there", x.select(0, many, 0), LinkPredictor.REFUSED);
            if (many > 0) {
                CHECKS.due("the last one", x.select(0, many - 1, 0), Sorts.M);
            }
            x.refer(Sorts.VIRTUAL, 0, 0, 0);
        }
    }

    private static void noneForOtherKinds() {
        CHECKS.sentence("NONE if its KIND is not VIRTUAL or FACE");
        for (int kind = 0; kind <= 8; kind++) {
            LinkPredictor x = new LinkPredictor();
            boolean isStatic = kind == 2 || kind == 3 || kind == 6;
            x.type(10, 3, 0, 0, 0);
            x.type(11, 1, 0, 0, 1 << 10);
            int r = kind == Sorts.FACE ? 10 : 11;
            x.member(r, kind >= 4, 0, Sorts.PUBLIC, isStatic ? Sorts.STATIC : 0);
            int i = x.refer(kind, 11, r, 0);
            CHECKS.due("GOOD, kind " + kind, x.resolve(0, i), kind == Sorts.TYPE ? 11 : Sorts.M);
            boolean has = kind == Sorts.VIRTUAL || kind == Sorts.FACE;
            CHECKS.due("select, kind " + kind, x.select(0, i, 11), has ? Sorts.M : LinkPredictor.NONE);
            CHECKS.due("an UNFIT one, kind " + kind, x.select(0, i, 0), has ? Sorts.UNFIT : LinkPredictor.NONE);
            CHECKS.due("not GOOD either, kind " + kind, x.select(1, i, 11), LinkPredictor.NONE);
        }
    }

    private static void noneIfNotGood() {
        CHECKS.sentence("or its VERDICT is not GOOD.");
        LinkPredictor x = new LinkPredictor();
        x.type(1, 1, 0, 1, 0);
        x.type(2, 0, 1, 0, 0);
        x.member(0, true, 0, Sorts.PUBLIC, Sorts.STATIC);
        int[] refs = {
            x.refer(Sorts.VIRTUAL, 0, 11, 0), x.refer(Sorts.VIRTUAL, 0, 1, 0), x.refer(Sorts.VIRTUAL, 0, 0, 0),
            x.refer(Sorts.FACE, 0, 0, 0), x.refer(Sorts.VIRTUAL, 0, 2, 0), x.refer(Sorts.VIRTUAL, 0, 0, 1),
        };
        int[] due = {
            Sorts.MISSING + 11, Sorts.CIRCULAR + 1, Sorts.CHANGED + Sorts.M, Sorts.CHANGED, Sorts.BARRED + 2,
            Sorts.NO_METHOD,
        };
        for (int n = 0; n < refs.length; n++) {
            CHECKS.due("resolve", x.resolve(0, refs[n]), due[n]);
            for (int c = 0; c <= 11; c++) {
                CHECKS.due("select for " + c, x.select(0, refs[n], c), LinkPredictor.NONE);
            }
        }
        x.remake(0, Sorts.PUBLIC, 0);
        CHECKS.due("GOOD now", x.select(0, refs[2], 0), Sorts.M);
    }

    private static void refusedBeforeNone() {
        CHECKS.sentence("REFUSED if a number is not as said, or there is none such; NONE if its KIND is not");
        LinkPredictor x = new LinkPredictor();
        x.refer(Sorts.GET, 11, 11, 0);
        CHECKS.due("NONE", x.select(0, 0, 0), LinkPredictor.NONE);
        CHECKS.due("NONE for c 11", x.select(0, 0, 11), LinkPredictor.NONE);
        CHECKS.due("c 12", x.select(0, 0, 12), LinkPredictor.REFUSED);
        CHECKS.due("c -1", x.select(0, 0, -1), LinkPredictor.REFUSED);
        CHECKS.due("build 2", x.select(2, 0, 0), LinkPredictor.REFUSED);
        CHECKS.due("none such", x.select(0, 1, 0), LinkPredictor.REFUSED);
    }

    private static void unfitReceivers() {
        CHECKS.sentence("c must be LOADED, no INTERFACE, not ABSTRACT, and UNDER r, else it is UNFIT.");
        for (int c = 1; c <= 11; c++) {
            LinkPredictor x = new LinkPredictor();
            x.member(0, true, 0, Sorts.PUBLIC, 0);
            int i = x.refer(Sorts.VIRTUAL, 0, 0, 0);
            CHECKS.due("not THERE", x.select(0, i, c), Sorts.UNFIT + c);
            for (int flags = 0; flags <= 15; flags++) {
                x.type(c, flags, 3, 0, 0);
                CHECKS.due("flags " + flags, x.select(0, i, c), (flags & 6) == 0 ? Sorts.M : Sorts.UNFIT + c);
            }
            x.type(c, 1, 0, c, 0);
            CHECKS.due("CIRCULAR", x.select(0, i, c), Sorts.UNFIT + c);
            x.type(c, 1, 0, 0, 1);
            CHECKS.due("CHANGED", x.select(0, i, c), Sorts.UNFIT + c);
            x.type(c, 1, 0, c % 11 + 1, 0);
            CHECKS.due("its SUPER is MISSING", x.select(0, i, c), Sorts.UNFIT + c);
            CHECKS.due("the ROOT", x.select(0, i, 0), Sorts.M);
        }
    }

    private static void unfitNotUnder() {
        CHECKS.sentence("and UNDER r, else it is UNFIT.");
        LinkPredictor x = ladder();
        x.member(0, true, 0, Sorts.PUBLIC, 0);
        for (int r = 0; r <= 11; r++) {
            x.forget();
            int i = x.refer(Sorts.VIRTUAL, 0, r, 0);
            for (int c = 0; c <= 11; c++) {
                CHECKS.due(c + " by way of " + r, x.select(0, i, c), c >= r ? Sorts.M : Sorts.UNFIT + c);
            }
        }
        LinkPredictor y = new LinkPredictor();
        y.type(10, 3, 0, 0, 0);
        y.type(11, 1, 0, 0, 1 << 10);
        y.type(9, 1, 0, 0, 0);
        y.member(10, true, 0, Sorts.PUBLIC, 0);
        int face = y.refer(Sorts.FACE, 0, 10, 0);
        CHECKS.due("UNDER a FACE", y.select(0, face, 11), Sorts.M);
        CHECKS.due("not UNDER it", y.select(0, face, 9), Sorts.UNFIT + 9);
    }

    private static void privateIsItself() {
        CHECKS.sentence("If m is PRIVATE, it is m.");
        for (int access = 0; access <= 3; access++) {
            LinkPredictor x = ladder();
            x.member(1, true, 0, access, 0);
            x.member(11, true, 0, Sorts.PUBLIC, 0);
            int i = x.refer(Sorts.VIRTUAL, 1, 1, 0);
            for (int c = 1; c <= 10; c++) {
                CHECKS.due("access " + access + " for " + c, x.select(0, i, c), Sorts.M);
            }
            CHECKS.due("access " + access + " for 11", x.select(0, i, 11), access == 0 ? Sorts.M : Sorts.M + 1);
        }
        LinkPredictor y = new LinkPredictor();
        y.type(1, 3, 0, 0, 0);
        y.type(2, 1, 0, 0, 1 << 1);
        y.member(1, true, 0, Sorts.PRIVATE, 0);
        y.member(2, true, 0, Sorts.PUBLIC, 0);
        int face = y.refer(Sorts.FACE, 1, 1, 0);
        CHECKS.due("by FACE: neither BARRED nor passed", y.select(0, face, 2), Sorts.M);
        y.remake(0, Sorts.PRIVATE, Sorts.ABSTRACT);
        CHECKS.due("ABSTRACT: CUT", y.select(0, face, 2), Sorts.CUT + Sorts.M);
    }

    private static void firstOfTheAbove() {
        CHECKS.sentence("Else the first one of the ABOVE of c that has a METHOD of this NAME and SHAPE");
        LinkPredictor x = ladder();
        x.member(0, true, 7, Sorts.PUBLIC, 0);
        x.member(4, true, 7, Sorts.PUBLIC, 0);
        x.member(8, true, 7, Sorts.PUBLIC, 0);
        x.member(11, true, 7, Sorts.PUBLIC, 0);
        for (int t = 1; t <= 11; t++) {
            x.member(t, true, 6, Sorts.PUBLIC, 0);
        }
        for (int t = 1; t <= 11; t++) {
            x.member(t, false, 7, Sorts.PUBLIC, 0);
        }
        int i = x.refer(Sorts.VIRTUAL, 0, 0, 7);
        for (int c = 0; c <= 11; c++) {
            int due = c < 4 ? 0 : c < 8 ? 1 : c < 11 ? 2 : 3;
            CHECKS.due("for " + c, x.select(0, i, c), Sorts.M + due);
        }
    }

    private static void firstOfALongLadder() {
        CHECKS.sentence("Else the first one of the ABOVE of c that has a METHOD of this NAME and SHAPE");
        for (int t = 0; t <= 11; t++) {
            LinkPredictor x = ladder();
            x.member(0, true, 14, Sorts.PUBLIC, 0);
            int due = t == 0 ? 0 : x.member(t, true, 14, Sorts.PUBLIC, 0);
            int i = x.refer(Sorts.VIRTUAL, 0, 0, 14);
            CHECKS.due("that of " + t + " for 11", x.select(0, i, 11), Sorts.M + due);
            CHECKS.due("that of the ROOT for itself", x.select(0, i, 0), Sorts.M);
        }
    }

    /** 2 lies under 1, which has m; what 2 has counts if it is neither PRIVATE nor STATIC. */
    private static void privateAndStaticArePassed() {
        CHECKS.sentence("not PRIVATE and not STATIC, that is m or OVERRIDES it");
        for (int access = 0; access <= 3; access++) {
            for (int flags = 0; flags <= 7; flags++) {
                LinkPredictor x = new LinkPredictor();
                x.type(1, 1, 0, 0, 0);
                x.type(2, 1, 0, 1, 0);
                x.member(1, true, 0, Sorts.PUBLIC, 0);
                x.member(2, true, 0, access, flags);
                int i = x.refer(Sorts.VIRTUAL, 0, 1, 0);
                boolean passed = access == 0 || (flags & 1) != 0;
                int found = (flags & 2) != 0 ? Sorts.CUT + Sorts.M + 1 : Sorts.M + 1;
                CHECKS.due("access " + access + " flags " + flags, x.select(0, i, 2), passed ? Sorts.M : found);
            }
        }
    }

    private static void overridesByAccessAndPackage() {
        CHECKS.sentence("that is m or OVERRIDES it: m is PUBLIC or PROTECTED, or it is of PACKAGE access"
                + " and both TYPES have the same PACKAGE");
        for (int access = 1; access <= 3; access++) {
            for (int own = 1; own <= 3; own++) {
                for (int p = 0; p <= 3; p++) {
                    for (int q = 0; q <= 3; q++) {
                        LinkPredictor x = new LinkPredictor();
                        x.type(1, 1, p, 0, 0);
                        x.type(2, 1, q, 1, 0);
                        x.type(3, 1, p, 2, 0);
                        x.member(1, true, 0, access, 0);
                        x.member(2, true, 0, own, 0);
                        int i = x.refer(Sorts.VIRTUAL, 1, 1, 0);
                        int due = access != 1 || p == q ? Sorts.M + 1 : Sorts.M;
                        String told = "m " + access + ", the other " + own + ", PACKAGES " + p + " and " + q;
                        CHECKS.due(told, x.select(0, i, 2), due);
                        CHECKS.due("farther below: " + told, x.select(0, i, 3), due);
                        CHECKS.due("m itself: " + told, x.select(0, i, 1), Sorts.M);
                    }
                }
            }
        }
    }

    private static void oneOfTheMostSpecific() {
        CHECKS.sentence("else the one of the MOST SPECIFIC ones for c that is not ABSTRACT, if there is just one");
        LinkPredictor x = new LinkPredictor();
        x.type(1, 3, 0, 0, 0);
        x.type(2, 3, 0, 0, 1 << 1);
        x.type(3, 3, 0, 0, 1 << 2);
        x.type(4, 1, 0, 0, 1 << 1);
        x.type(5, 1, 0, 4, 1 << 2);
        x.type(6, 1, 0, 5, 1 << 3);
        for (int t = 1; t <= 3; t++) {
            x.member(t, true, 0, Sorts.PUBLIC, 0);
        }
        int i = x.refer(Sorts.FACE, 0, 1, 0);
        for (int c = 4; c <= 6; c++) {
            CHECKS.due("for " + c, x.select(0, i, c), Sorts.M + c - 4);
        }
        x.remake(2, Sorts.PUBLIC, Sorts.ABSTRACT);
        CHECKS.due("the MOST SPECIFIC one has no body", x.select(0, i, 6), Sorts.CUT + 6);
        CHECKS.due("it is no FACE of 5", x.select(0, i, 5), Sorts.M + 1);
        x.remake(2, Sorts.PRIVATE, 0);
        CHECKS.due("a PRIVATE one is left out", x.select(0, i, 6), Sorts.M + 1);
        x.remake(2, Sorts.PUBLIC, Sorts.STATIC);
        CHECKS.due("a STATIC one is left out", x.select(0, i, 6), Sorts.M + 1);
    }

    private static void facesWithEveryNumber() {
        CHECKS.sentence("else the one of the MOST SPECIFIC ones for c that is not ABSTRACT, if there is just one");
        for (int high = 1; high <= 11; high++) {
            for (int low = 1; low <= 11; low++) {
                if (low != high) {
                    int c = 1;
                    while (c == high || c == low) {
                        c++;
                    }
                    LinkPredictor x = new LinkPredictor();
                    x.type(high, 3, 0, 0, 0);
                    x.type(low, 3, 0, 0, 1 << high);
                    x.type(c, 1, 0, 0, 1 << low);
                    x.member(high, true, 0, Sorts.PUBLIC, 0);
                    x.member(low, true, 0, Sorts.PUBLIC, 0);
                    int i = x.refer(Sorts.FACE, 0, high, 0);
                    CHECKS.due(low + " under " + high, x.select(0, i, c), Sorts.M + 1);
                    x.type(low, 3, 0, 0, 0);
                    x.type(c, 1, 0, 0, 1 << high | 1 << low);
                    CHECKS.due(low + " beside " + high, x.select(0, i, c), Sorts.CHANGED + c);
                    x.remake(0, Sorts.PUBLIC, Sorts.ABSTRACT);
                    CHECKS.due(low + " alone with a body", x.select(0, i, c), Sorts.M + 1);
                }
            }
        }
    }

    private static void moreThanOneAndNone() {
        CHECKS.sentence("if there are more such ones, CHANGED c; with none, CUT c.");
        for (int bodies = 0; bodies < 16; bodies++) {
            LinkPredictor x = new LinkPredictor();
            x.type(1, 3, 0, 0, 0);
            x.member(1, true, 0, Sorts.PUBLIC, 0);
            for (int t = 2; t <= 5; t++) {
                x.type(t, 3, 0, 0, 1 << 1);
                x.member(t, true, 0, Sorts.PUBLIC, (bodies >> t - 2 & 1) == 1 ? 0 : Sorts.ABSTRACT);
            }
            x.type(11, 1, 0, 0, 0b111100);
            int[] due = {Sorts.CUT + 11, Sorts.M + 1 + Integer.numberOfTrailingZeros(bodies), Sorts.CHANGED + 11};
            int many = Math.min(Integer.bitCount(bodies), 2);
            CHECKS.due("FACE, " + bodies, x.select(0, x.refer(Sorts.FACE, 0, 1, 0), 11), due[many]);
            CHECKS.due("VIRTUAL, " + bodies, x.select(0, x.refer(Sorts.VIRTUAL, 0, 11, 0), 11), due[many]);
        }
    }

    private static void abstractIsCut() {
        CHECKS.sentence("What is SELECTED so: CUT it, if it is ABSTRACT");
        for (int flags = 0; flags <= 7; flags += 2) {
            LinkPredictor x = new LinkPredictor();
            x.type(1, 3, 0, 0, 0);
            x.type(2, 1, 0, 0, 1 << 1);
            x.type(11, 1, 0, 2, 0);
            x.member(1, true, 0, Sorts.PUBLIC, 0);
            x.member(2, true, 0, Sorts.PUBLIC, flags);
            int due = (flags & 2) != 0 ? Sorts.CUT + Sorts.M + 1 : Sorts.M + 1;
            CHECKS.due("FACE", x.select(0, x.refer(Sorts.FACE, 0, 1, 0), 11), due);
            CHECKS.due("VIRTUAL", x.select(0, x.refer(Sorts.VIRTUAL, 0, 2, 0), 11), due);
        }
    }

    private static void barredForFace() {
        CHECKS.sentence("for FACE BARRED it, if it is neither PUBLIC nor PRIVATE. Else it is SELECTED.");
        for (int access = 1; access <= 3; access++) {
            LinkPredictor x = new LinkPredictor();
            x.type(1, 3, 0, 0, 0);
            x.type(2, 1, 0, 0, 1 << 1);
            x.member(1, true, 0, Sorts.PUBLIC, 0);
            x.member(2, true, 0, access, 0);
            int face = x.refer(Sorts.FACE, 0, 1, 0);
            int virtual = x.refer(Sorts.VIRTUAL, 0, 2, 0);
            int due = access == 3 ? Sorts.M + 1 : Sorts.BARRED + Sorts.M + 1;
            CHECKS.due("a class has it, " + access, x.select(0, face, 2), due);
            CHECKS.due("VIRTUAL, " + access, x.select(0, virtual, 2), Sorts.M + 1);
            x.remake(1, access, Sorts.ABSTRACT);
            CHECKS.due("CUT before BARRED, " + access, x.select(0, face, 2), Sorts.CUT + Sorts.M + 1);
            x.remove(1);
            x.remake(0, access, 0);
            due = access == 3 ? Sorts.M : Sorts.BARRED + Sorts.M;
            CHECKS.due("the FACE has it, " + access, x.select(0, face, 2), due);
            CHECKS.due("VIRTUAL, " + access, x.select(0, virtual, 2), Sorts.M);
        }
    }
}
