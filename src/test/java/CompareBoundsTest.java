/** The edges of promises 15, 16 and 18, sentence by sentence: compare, receivers, count; and what ALIKE is. */
public final class CompareBoundsTest {
    private static final Checks CHECKS = new Checks("CompareBoundsTest");

    public static void main(String[] args) {
        compareRefuses();
        compareOfEveryReference();
        everyAnswerOfCompare();
        alikeNeedsTheSameSort();
        alikeNeedsTheSameType();
        alikeMembersWhateverTheirNumbers();
        alikeMembersOfTheSameType();
        receiversRefuses();
        receiversOfOtherKinds();
        receiversOfNoneAndOfAll();
        receiversEachAlone();
        receiversSelectedInOneBuild();
        receiversLostByUnfit();
        receiversLostByWhatIsSelected();
        receiversLostByResolving();
        receiversWithAnother();
        countRefuses();
        countOfTypes();
        countOfMembers();
        countOfReferences();
        countOfLoaded();
        countOfAbstractMethods();
        countOfNests();
        questionsChangeNothing();
        fiveHundredAndTwelveCalls();
        CHECKS.end();
    }

    /** 11 TYPES below the ROOT, which has a METHOD; NEW as OLD, and WRITTEN; a VIRTUAL call of it. */
    private static LinkPredictor crowd() {
        LinkPredictor x = new LinkPredictor();
        for (int t = 1; t <= 11; t++) {
            x.type(t, 1, 0, 0, 0);
        }
        x.member(0, true, 0, Sorts.PUBLIC, 0);
        x.branch();
        x.refer(Sorts.VIRTUAL, 0, 0, 0);
        return x;
    }

    private static void compareRefuses() {
        CHECKS.sentence("and they are not ALIKE. REFUSED if there is none such.");
        Refusals.everyWrongQuestion(CHECKS, "compare", (x, a) -> x.compare(a[0]), LinkPredictor.REFUSED, new int[] {0},
                new Range(0, 15));
        LinkPredictor x = new LinkPredictor();
        for (int many = 0; many <= 16; many++) {
            CHECKS.due("the first that is not there", x.compare(many), LinkPredictor.REFUSED);
            if (many > 0) {
                CHECKS.due("the last one", x.compare(many - 1), 0);
            }
            x.refer(Sorts.TYPE, 0, 0, 0);
        }
    }

    private static void compareOfEveryReference() {
        CHECKS.sentence("From OLD to NEW, REFERENCE i: 0 if both VERDICTS are ALIKE");
        for (int changed = 0; changed < 16; changed++) {
            LinkPredictor x = new LinkPredictor();
            x.type(11, 1, 0, 0, 0);
            for (int i = 0; i < 16; i++) {
                x.refer(Sorts.TYPE, 0, i == changed ? 11 : 0, 0);
            }
            for (int i = 0; i < 16; i++) {
                CHECKS.due("compare " + i, x.compare(i), i == changed ? 1 : 0);
            }
        }
    }

    private static void everyAnswerOfCompare() {
        CHECKS.sentence("1 if it was GOOD and is not (it BREAKS), 2 if it was not and is (it HEALS),"
                + " 3 if it is GOOD in both, but they are not ALIKE, 4 if it is GOOD in neither");
        // What TYPE 2 has and lies under makes these VERDICTS: GOOD with 2's own, GOOD with 1's, NO METHOD, MISSING.
        int[][] due = {{0, 3, 1, 1}, {3, 0, 1, 1}, {2, 2, 0, 4}, {2, 2, 4, 0}};
        for (int was = 0; was < 4; was++) {
            for (int is = 0; is < 4; is++) {
                LinkPredictor x = new LinkPredictor();
                makeCase(x, was);
                x.write(1);
                makeCase(x, is);
                x.refer(Sorts.VIRTUAL, 0, 2, 0);
                CHECKS.due("from " + was + " to " + is, x.compare(0), due[was][is]);
            }
        }
    }

    private static void makeCase(LinkPredictor x, int number) {
        x.type(1, 1, 0, 0, 0);
        if (number != 3) {
            x.type(2, 1, 0, 1, 0);
        }
        if (number == 0) {
            x.member(2, true, 0, Sorts.PUBLIC, 0);
        }
        if (number <= 1) {
            x.member(1, true, 0, Sorts.PUBLIC, 0);
        }
    }

    private static void alikeNeedsTheSameSort() {
        CHECKS.sentence("Two VERDICTS are ALIKE if they have the same SORT");
        LinkPredictor x = new LinkPredictor();
        x.type(1, 1, 0, 0, 0);
        x.member(1, true, 0, Sorts.PUBLIC, Sorts.STATIC);
        x.refer(Sorts.VIRTUAL, 0, 1, 0);
        x.refer(Sorts.TYPE, 0, 1, 0);
        x.branch();
        CHECKS.due("CHANGED m in both", x.compare(0), 0);
        x.remake(0, Sorts.PRIVATE, 0);
        CHECKS.due("CHANGED m and BARRED m", x.compare(0), 4);
        x.type(1, 1, 0, 1, 0);
        x.write(0);
        x.drop(1);
        CHECKS.due("MISSING 1 and CIRCULAR 1", x.compare(1), 4);
        x.type(1, 1, 0, 1, 0);
        CHECKS.due("CIRCULAR 1 in both", x.compare(1), 0);
        x.type(1, 1, 0, 0, 1);
        CHECKS.due("CHANGED 1 and CIRCULAR 1", x.compare(1), 4);
    }

    private static void alikeNeedsTheSameType() {
        CHECKS.sentence("and blame the same TYPE");
        for (int u = 2; u <= 11; u++) {
            for (int v = 2; v <= 11; v++) {
                LinkPredictor x = new LinkPredictor();
                x.refer(Sorts.TYPE, 0, 1, 0);
                x.type(1, 1, 0, u, 0);
                x.write(1);
                x.type(1, 1, 0, v, 0);
                CHECKS.due("MISSING " + u + " and " + v, x.compare(0), u == v ? 0 : 4);
            }
        }
        LinkPredictor x = new LinkPredictor();
        x.refer(Sorts.GET, 0, 1, 0);
        x.type(1, 0, 1, 0, 0);
        x.member(1, false, 0, Sorts.PRIVATE, 0);
        x.branch();
        CHECKS.due("BARRED 1 in both", x.compare(0), 0);
        x.type(1, 1, 1, 0, 0);
        CHECKS.due("BARRED: a TYPE and a MEMBER", x.compare(0), 4);
        x.write(0);
        x.type(1, 1, 1, 0, 0);
        CHECKS.due("BARRED m in both", x.compare(0), 0);
        x.write(1);
        x.type(1, 0, 1, 0, 0);
        CHECKS.due("BARRED: a MEMBER and a TYPE", x.compare(0), 4);
    }

    /** TYPE 11 gets its MEMBER with each number in OLD, and with each in NEW. */
    private static void alikeMembersWhateverTheirNumbers() {
        CHECKS.sentence("or MEMBERS of the same TYPE, kind, NAME and SHAPE, whatever their numbers.");
        for (int m = 0; m < 30; m += 29) {
            for (int n = 0; n < 30; n++) {
                LinkPredictor x = new LinkPredictor();
                makeMember(x, m, n % 2 == 0);
                x.write(1);
                makeMember(x, n, n % 2 == 0);
                int i = x.refer(n % 2 == 0 ? Sorts.VIRTUAL : Sorts.GET, 0, 11, 14);
                CHECKS.due("OLD", x.resolve(0, i), Sorts.M + m);
                CHECKS.due("NEW", x.resolve(1, i), Sorts.M + n);
                CHECKS.due("ALIKE", x.compare(i), 0);
                x.remake(n, Sorts.PUBLIC, Sorts.ABSTRACT | Sorts.FINAL);
                CHECKS.due("whatever its FLAGS", x.compare(i), 0);
            }
        }
    }

    private static void makeMember(LinkPredictor x, int number, boolean method) {
        x.type(11, 1, 0, 0, 0);
        for (int m = 0; m < number; m++) {
            x.member(0, m >= 15, m % 15, Sorts.PUBLIC, 0);
        }
        x.member(11, method, 14, Sorts.PUBLIC, 0);
    }

    private static void alikeMembersOfTheSameType() {
        CHECKS.sentence("or MEMBERS of the same TYPE, kind, NAME and SHAPE");
        for (int kind : new int[] {Sorts.GET, Sorts.VIRTUAL}) {
            for (int t = 0; t <= 11; t++) {
                for (int u = 0; u <= 11; u++) {
                    LinkPredictor x = new LinkPredictor();
                    for (int n = 1; n <= 11; n++) {
                        x.type(n, 1, 0, n - 1, 0);
                    }
                    x.branch();
                    x.member(t, kind == Sorts.VIRTUAL, 0, Sorts.PUBLIC, 0);
                    x.write(0);
                    x.member(u, kind == Sorts.VIRTUAL, 0, Sorts.PUBLIC, 0);
                    x.refer(kind, 0, 11, 0);
                    CHECKS.due("the same number, of " + t + " and " + u, x.compare(0), t == u ? 0 : 3);
                }
            }
        }
    }

    private static void receiversRefuses() {
        CHECKS.sentence("REFUSED for another what, or if there is none such; 0 if its KIND is not VIRTUAL or FACE.");
        Refusals.Call receivers = (x, a) -> x.receivers(a[0], a[1]);
        Range[] ranges = {new Range(0, 15), new Range(0, 3)};
        Refusals.everyWrongQuestion(CHECKS, "receivers", receivers, LinkPredictor.REFUSED, new int[] {0, 0}, ranges);
        Refusals.everyWrongQuestion(CHECKS, "receivers", receivers, LinkPredictor.REFUSED, new int[] {2, 3}, ranges);
        LinkPredictor x = crowd();
        x.forget();
        for (int many = 0; many <= 16; many++) {
            for (int what = 0; what < 4; what++) {
                CHECKS.due("the first that is not there", x.receivers(many, what), LinkPredictor.REFUSED);
            }
            if (many > 0) {
                CHECKS.due("the last one", x.receivers(many - 1, 0), 12);
            }
            x.refer(Sorts.VIRTUAL, 0, 0, 0);
        }
    }

    /** 1 is an INTERFACE and 2 a class with it; the REFERENCE is GOOD in OLD, and in NEW until 2 goes. */
    private static void receiversOfOtherKinds() {
        CHECKS.sentence("0 if its KIND is not VIRTUAL or FACE.");
        for (int kind = 0; kind <= 8; kind++) {
            LinkPredictor x = new LinkPredictor();
            x.type(1, 3, 0, 0, 0);
            x.type(2, 1, 0, 0, 1 << 1);
            boolean isStatic = kind == 2 || kind == 3 || kind == 6;
            x.member(1, kind >= 4, 0, Sorts.PUBLIC, isStatic ? Sorts.STATIC : 0);
            x.member(2, kind >= 4, 0, Sorts.PUBLIC, isStatic ? Sorts.STATIC : 0);
            x.branch();
            int i = x.refer(kind, 2, kind == Sorts.FACE ? 1 : 2, 0);
            CHECKS.due("GOOD, kind " + kind, x.count(0, 3) + x.count(1, 3), 2);
            int due = kind == Sorts.VIRTUAL || kind == Sorts.FACE ? 1 : 0;
            CHECKS.due("OLD, kind " + kind, x.receivers(i, 0), due);
            CHECKS.due("NEW, kind " + kind, x.receivers(i, 1), due);
            CHECKS.due("another what, kind " + kind, x.receivers(i, 4), LinkPredictor.REFUSED);
            CHECKS.due("another what, kind " + kind, x.receivers(i, -1), LinkPredictor.REFUSED);
            x.remove(1);
            x.member(0, kind >= 4, 0, Sorts.PUBLIC, isStatic ? Sorts.STATIC : 0);
            CHECKS.due("another one, kind " + kind, x.receivers(i, 3), due);
            x.drop(2);
            CHECKS.due("lost, kind " + kind, x.receivers(i, 2), due);
            CHECKS.due("not in both, kind " + kind, x.receivers(i, 3), 0);
        }
    }

    private static void receiversOfNoneAndOfAll() {
        CHECKS.sentence("For how many receivers 0 to 11 what holds for REFERENCE i");
        LinkPredictor x = crowd();
        CHECKS.due("all in OLD", x.receivers(0, 0), 12);
        CHECKS.due("all in NEW", x.receivers(0, 1), 12);
        CHECKS.due("none lost", x.receivers(0, 2), 0);
        CHECKS.due("none with another", x.receivers(0, 3), 0);
        for (int t = 1; t <= 11; t++) {
            x.member(t, true, 0, Sorts.PUBLIC, 0);
            CHECKS.due("with another", x.receivers(0, 3), t);
        }
        for (int m = 0; m <= 11; m++) {
            x.remake(m, Sorts.PUBLIC, Sorts.ABSTRACT);
            CHECKS.due("lost", x.receivers(0, 2), m + 1);
            CHECKS.due("left in NEW", x.receivers(0, 1), 11 - m);
            CHECKS.due("left in both", x.receivers(0, 3), 11 - m);
        }
        x.write(0);
        x.remove(0);
        for (int what = 0; what < 4; what++) {
            CHECKS.due("none, what " + what, x.receivers(0, what), 0);
        }
    }

    private static void receiversEachAlone() {
        CHECKS.sentence("For how many receivers 0 to 11 what holds for REFERENCE i");
        for (int c = 0; c <= 11; c++) {
            LinkPredictor x = new LinkPredictor();
            for (int t = 1; t <= 11; t++) {
                x.type(t, t == c ? 1 : 5, 0, 0, 0);
            }
            x.member(0, true, 0, Sorts.PUBLIC, 0);
            if (c != 0) {
                x.member(c, true, 0, Sorts.PUBLIC, 0);
                x.remake(0, Sorts.PUBLIC, Sorts.ABSTRACT);
            }
            x.refer(Sorts.VIRTUAL, 0, 0, 0);
            CHECKS.due("OLD, " + c, x.receivers(0, 0), 1);
            CHECKS.due("NEW, " + c, x.receivers(0, 1), 0);
            CHECKS.due("lost, " + c, x.receivers(0, 2), 1);
            x.branch();
            CHECKS.due("NEW, " + c, x.receivers(0, 1), 1);
            CHECKS.due("not lost, " + c, x.receivers(0, 2), 0);
        }
    }

    private static void receiversSelectedInOneBuild() {
        CHECKS.sentence("what 0: one is SELECTED in OLD; 1: one is SELECTED in NEW");
        LinkPredictor x = crowd();
        x.drop(11);
        CHECKS.due("OLD", x.receivers(0, 0), 12);
        CHECKS.due("NEW", x.receivers(0, 1), 11);
        x.write(0);
        x.drop(1);
        x.drop(2);
        x.drop(3);
        CHECKS.due("OLD", x.receivers(0, 0), 9);
        CHECKS.due("NEW", x.receivers(0, 1), 11);
        CHECKS.due("gains do not count as losses", x.receivers(0, 2), 1);
        CHECKS.due("nor as others", x.receivers(0, 3), 0);
    }

    private static void receiversLostByUnfit() {
        CHECKS.sentence("2: one is SELECTED in OLD, and in NEW it is UNFIT");
        LinkPredictor x = crowd();
        x.type(1, 5, 0, 0, 0);
        CHECKS.due("ABSTRACT", x.receivers(0, 2), 1);
        x.type(2, 3, 0, 0, 0);
        CHECKS.due("an INTERFACE", x.receivers(0, 2), 2);
        x.type(3, 1, 0, 3, 0);
        CHECKS.due("not LOADED", x.receivers(0, 2), 3);
        x.drop(11);
        CHECKS.due("not THERE", x.receivers(0, 2), 4);
        CHECKS.due("UNFIT in both is no loss", x.receivers(0, 0), 12);
        x.write(0);
        x.type(1, 5, 0, 0, 0);
        CHECKS.due("1 was UNFIT in OLD", x.receivers(0, 2), 3);
    }

    private static void receiversLostByWhatIsSelected() {
        CHECKS.sentence("or none is SELECTED, or it is not GOOD there");
        LinkPredictor x = new LinkPredictor();
        for (int t = 1; t <= 3; t++) {
            x.type(t, 3, 0, 0, t == 1 ? 0 : 1 << 1);
        }
        x.type(10, 1, 0, 0, 1 << 2 | 1 << 3);
        x.type(11, 1, 0, 0, 1 << 1);
        x.member(1, true, 0, Sorts.PUBLIC, 0);
        x.refer(Sorts.FACE, 0, 1, 0);
        x.branch();
        CHECKS.due("none lost", x.receivers(0, 2), 0);
        x.member(2, true, 0, Sorts.PUBLIC, 0);
        x.member(3, true, 0, Sorts.PUBLIC, 0);
        CHECKS.due("CHANGED 10", x.receivers(0, 2), 1);
        x.member(11, true, 0, Sorts.PROTECTED, 0);
        CHECKS.due("BARRED, too", x.receivers(0, 2), 2);
        x.remake(2, Sorts.PUBLIC, Sorts.ABSTRACT);
        CHECKS.due("10 has just one again", x.receivers(0, 2), 1);
        x.remake(1, Sorts.PUBLIC, Sorts.ABSTRACT);
        CHECKS.due("CUT 10", x.receivers(0, 2), 2);
        CHECKS.due("none in NEW", x.receivers(0, 1), 0);
    }

    private static void receiversLostByResolving() {
        CHECKS.sentence("or it is not GOOD there");
        LinkPredictor x = crowd();
        x.remake(0, Sorts.PUBLIC, Sorts.STATIC);
        CHECKS.due("CHANGED m", x.receivers(0, 2), 12);
        CHECKS.due("none in both", x.receivers(0, 3), 0);
        x.remove(0);
        CHECKS.due("NO METHOD", x.receivers(0, 2), 12);
        CHECKS.due("none in NEW", x.receivers(0, 1), 0);
        x.branch();
        CHECKS.due("GOOD again", x.receivers(0, 2), 0);
    }

    private static void receiversWithAnother() {
        CHECKS.sentence("3: one is SELECTED in both, and those are not ALIKE.");
        LinkPredictor x = crowd();
        x.remove(0);
        CHECKS.due("another number", x.member(0, true, 0, Sorts.PUBLIC, 0), 1);
        CHECKS.due("ALIKE all the same", x.receivers(0, 3), 0);
        x.member(11, true, 0, Sorts.PUBLIC, 0);
        CHECKS.due("11 has its own", x.receivers(0, 3), 1);
        x.remake(2, Sorts.PUBLIC, Sorts.ABSTRACT);
        CHECKS.due("CUT in NEW", x.receivers(0, 3), 0);
        x.remake(2, Sorts.PUBLIC, 0);
        x.write(0);
        x.drop(11);
        CHECKS.due("UNFIT in OLD", x.receivers(0, 3), 0);
        x.type(11, 1, 0, 0, 0);
        CHECKS.due("again", x.receivers(0, 3), 1);
        x.member(11, true, 0, Sorts.PUBLIC, 0);
        CHECKS.due("in OLD, too", x.receivers(0, 3), 0);
    }

    private static void countRefuses() {
        CHECKS.sentence("REFUSED for others, or another build.");
        Range[] ranges = {Range.BUILD, new Range(0, 6)};
        for (int what = 0; what <= 6; what++) {
            Refusals.everyWrongQuestion(CHECKS, "count", (x, a) -> x.count(a[0], a[1]), LinkPredictor.REFUSED,
                    new int[] {what % 2, what}, ranges);
        }
    }

    private static void countOfTypes() {
        CHECKS.sentence("Of a BUILD what 0: TYPES THERE");
        LinkPredictor x = new LinkPredictor();
        CHECKS.due("the ROOT", x.count(0, 0), 1);
        for (int t = 11; t >= 1; t--) {
            x.type(t, 1, 0, t, 0);
            CHECKS.due("with faults, too", x.count(0, 0), 13 - t);
            CHECKS.due("NEW", x.count(1, 0), 1);
        }
        for (int t = 11; t >= 1; t--) {
            x.drop(t);
            CHECKS.due("dropped", x.count(0, 0), t);
        }
    }

    private static void countOfMembers() {
        CHECKS.sentence("1: MEMBERS that are not GONE, 2: all MEMBERS");
        LinkPredictor x = new LinkPredictor();
        CHECKS.due("none", x.count(0, 1), 0);
        CHECKS.due("none", x.count(0, 2), 0);
        for (int m = 0; m < 30; m++) {
            x.member(0, m % 2 == 0, m / 2, 3, 0);
        }
        for (int m = 0; m < 30; m++) {
            CHECKS.due("not GONE", x.count(0, 1), 30 - m);
            x.remove(m);
            CHECKS.due("all", x.count(0, 2), 30);
        }
        CHECKS.due("all are GONE", x.count(0, 1), 0);
        CHECKS.due("NEW has none", x.count(1, 2), 0);
    }

    private static void countOfReferences() {
        CHECKS.sentence("3: how many REFERENCES are GOOD");
        LinkPredictor x = new LinkPredictor();
        x.type(11, 1, 0, 0, 0);
        CHECKS.due("none", x.count(0, 3), 0);
        for (int i = 0; i < 16; i++) {
            x.refer(Sorts.TYPE, 0, i % 2 == 0 ? 0 : 11, 0);
            CHECKS.due("OLD", x.count(0, 3), i + 1);
            CHECKS.due("NEW", x.count(1, 3), i / 2 + 1);
        }
        x.drop(11);
        CHECKS.due("OLD", x.count(0, 3), 8);
        x.forget();
        CHECKS.due("none", x.count(0, 3), 0);
        x.member(0, true, 0, 3, 0);
        x.refer(Sorts.VIRTUAL, 0, 0, 0);
        CHECKS.due("GOOD with MEMBER 0", x.count(0, 3), 1);
        x.refer(Sorts.CALL_STATIC, 0, 0, 0);
        CHECKS.due("CHANGED is not GOOD", x.count(0, 3), 1);
    }

    private static void countOfLoaded() {
        CHECKS.sentence("4: how many TYPES (0 to 11, THERE) are LOADED without fault");
        LinkPredictor x = new LinkPredictor();
        CHECKS.due("the ROOT", x.count(0, 4), 1);
        for (int t = 1; t <= 11; t++) {
            x.type(t, 1, 0, t - 1, 0);
            CHECKS.due("up to " + t, x.count(0, 4), t + 1);
        }
        for (int t = 11; t >= 1; t--) {
            x.type(t, 1, 0, t, 0);
            CHECKS.due("CIRCULAR from " + t, x.count(0, 4), t);
        }
        for (int t = 1; t <= 11; t++) {
            x.type(t, 1, 0, 0, 1);
            CHECKS.due("CHANGED " + t, x.count(0, 4), 1);
        }
        x.drop(11);
        CHECKS.due("not THERE", x.count(0, 4), 1);
        x.type(10, 1, 0, 0, 0);
        CHECKS.due("10 alone", x.count(0, 4), 2);
    }

    private static void countOfAbstractMethods() {
        CHECKS.sentence("5: ABSTRACT METHODS not GONE");
        LinkPredictor x = new LinkPredictor();
        x.type(11, 1, 0, 0, 0);
        for (int sign = 0; sign <= 14; sign++) {
            x.member(0, false, sign, 3, 7);
            CHECKS.due("a FIELD is no METHOD", x.count(0, 5), 0);
        }
        for (int sign = 0; sign <= 14; sign++) {
            x.member(11, true, sign, sign % 4, 2 + sign % 2);
            CHECKS.due("METHODS", x.count(0, 5), sign + 1);
        }
        x.remake(15, 3, 5);
        CHECKS.due("no more ABSTRACT", x.count(0, 5), 14);
        x.remove(29);
        CHECKS.due("GONE", x.count(0, 5), 13);
        x.drop(11);
        CHECKS.due("all GONE", x.count(0, 5), 0);
        LinkPredictor y = new LinkPredictor();
        for (int m = 0; m < 30; m++) {
            y.type(m / 15 + 1, 1, 0, 0, 0);
            y.member(m / 15 + 1, true, m % 15, 0, 2);
        }
        CHECKS.due("all thirty", y.count(0, 5), 30);
        CHECKS.due("none in NEW", y.count(1, 5), 0);
    }

    private static void countOfNests() {
        CHECKS.sentence("6: the set of TYPES (bits) that have the same NEST as another one THERE"
                + " (not LOADED for that).");
        LinkPredictor x = new LinkPredictor();
        CHECKS.due("the ROOT alone", x.count(0, 6), 0);
        int due = 1;
        for (int t = 11; t >= 1; t--) {
            x.type(t, 0, 0, t, 0);
            x.nest(t, 0);
            due |= 1 << t;
            CHECKS.due("with the ROOT, though CIRCULAR", x.count(0, 6), due);
            CHECKS.due("not in NEW", x.count(1, 6), 0);
        }
        CHECKS.due("all", x.count(0, 6), 4095);
        for (int t = 11; t >= 2; t--) {
            x.drop(t);
            CHECKS.due("not THERE", x.count(0, 6), (1 << t) - 1);
        }
        x.nest(1, 1);
        CHECKS.due("none", x.count(0, 6), 0);
        x.type(11, 1, 3, 0, 0);
        x.type(10, 1, 3, 0, 0);
        x.type(9, 1, 3, 0, 0);
        x.nest(10, 11);
        x.nest(9, 11);
        x.nest(1, 0);
        CHECKS.due("two NESTS", x.count(0, 6), 7 << 9 | 0b11);
        x.drop(11);
        CHECKS.due("their HOST is not THERE", x.count(0, 6), 0b11);
    }

    private static void questionsChangeNothing() {
        CHECKS.sentence("Nothing is promised beyond the answers and state changes described above");
        Refusals rich = new Refusals(CHECKS, Scenes::rich);
        for (int i = 0; i < 8; i++) {
            int number = i;
            rich.unchanged("compare", x -> x.compare(number));
            for (int n = 0; n < 4; n++) {
                int what = n;
                rich.unchanged("receivers", x -> x.receivers(number, what));
            }
            rich.unchanged("resolve", x -> x.resolve(0, number) + x.resolve(1, number));
            rich.unchanged("select", x -> x.select(0, number, 5) + x.select(1, number, 9));
        }
        for (int t = 0; t <= 11; t++) {
            int number = t;
            rich.unchanged("load", x -> x.load(0, number) + x.load(1, number));
            rich.unchanged("isUnder", x -> x.isUnder(0, number, 1) || x.isUnder(1, 9, number) ? 1 : 0);
        }
        for (int n = 0; n <= 6; n++) {
            int what = n;
            rich.unchanged("count", x -> x.count(0, what) + x.count(1, what));
        }
    }

    private static void fiveHundredAndTwelveCalls() {
        CHECKS.sentence("An object is used for at most 512 calls after it has been made");
        LinkPredictor x = new LinkPredictor();
        for (int calls = 1; calls <= 510; calls += 2) {
            int t = calls % 11 + 1;
            CHECKS.yes("call " + calls, x.type(t, 1, 0, 0, 0));
            CHECKS.due("call " + (calls + 1), x.load(0, t), t);
        }
        CHECKS.due("call 511", x.branch(), 12);
        CHECKS.due("call 512", x.count(1, 4), 12);
    }
}
