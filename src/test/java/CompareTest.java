/** Promises 15, 16 and 18: compare, receivers, count. */
public final class CompareTest {
    private static final Checks CHECKS = new Checks("CompareTest");

    public static void main(String[] args) {
        compareRefuses();
        breaksAndHeals();
        goodInBoth();
        goodInNeither();
        alikeByTypeKindNameAndShape();
        receivers();
        receiversRefuses();
        countsTypesAndMembers();
        countsReferences();
        countsNests();
        countRefuses();
        CHECKS.end();
    }

    private static void compareRefuses() {
        LinkPredictor x = new LinkPredictor();
        CHECKS.due("none", x.compare(0), LinkPredictor.REFUSED);
        x.refer(8, 0, 0, 0);
        CHECKS.due("one", x.compare(0), 0);
        CHECKS.due("no second", x.compare(1), LinkPredictor.REFUSED);
        for (int far : Sorts.FAR) {
            CHECKS.due("far", x.compare(far), LinkPredictor.REFUSED);
        }
    }

    private static void breaksAndHeals() {
        LinkPredictor x = new LinkPredictor();
        x.refer(Sorts.TYPE, 0, 1, 0);
        x.refer(Sorts.VIRTUAL, 0, 1, 0);
        CHECKS.due("MISSING in both", x.compare(0), 0);
        x.type(1, 1, 0, 0, 0);
        x.member(1, true, 0, Sorts.PUBLIC, 0);
        CHECKS.due("BREAKS", x.compare(0), 1);
        CHECKS.due("BREAKS", x.compare(1), 1);
        x.branch();
        CHECKS.due("ALIKE", x.compare(0), 0);
        CHECKS.due("ALIKE", x.compare(1), 0);
        x.write(0);
        x.drop(1);
        CHECKS.due("HEALS", x.compare(0), 2);
        CHECKS.due("HEALS", x.compare(1), 2);
    }

    private static void goodInBoth() {
        LinkPredictor x = new LinkPredictor();
        x.type(1, 1, 0, 0, 0);
        x.type(2, 1, 0, 1, 0);
        x.member(1, true, 0, Sorts.PUBLIC, 0);
        x.refer(Sorts.VIRTUAL, 0, 2, 0);
        x.branch();
        x.member(2, true, 0, Sorts.PUBLIC, 0);
        CHECKS.due("of another TYPE", x.compare(0), 3);
        x.remove(1);
        CHECKS.due("ALIKE", x.compare(0), 0);
    }

    private static void goodInNeither() {
        LinkPredictor x = new LinkPredictor();
        x.type(1, 1, 0, 0, 0);
        x.member(1, true, 0, Sorts.PRIVATE, 0);
        x.refer(Sorts.VIRTUAL, 0, 1, 0);
        x.branch();
        x.drop(1);
        CHECKS.due("BARRED and MISSING", x.compare(0), 4);
        x.type(1, 1, 0, 2, 0);
        x.write(0);
        x.drop(1);
        CHECKS.due("MISSING 1 and MISSING 2", x.compare(0), 4);
        x.type(1, 0, 1, 0, 0);
        x.member(1, true, 0, Sorts.PRIVATE, 0);
        x.write(1);
        x.type(1, 1, 0, 0, 0);
        x.member(1, true, 0, Sorts.PRIVATE, 0);
        CHECKS.due("BARRED: a TYPE and a MEMBER", x.compare(0), 4);
        x.write(0);
        x.type(1, 1, 1, 0, 0);
        CHECKS.due("BARRED: the same MEMBER", x.compare(0), 0);
    }

    private static void alikeByTypeKindNameAndShape() {
        LinkPredictor x = new LinkPredictor();
        x.type(1, 1, 0, 0, 0);
        x.member(1, false, 0, Sorts.PUBLIC, 0);
        x.member(1, true, 0, Sorts.PUBLIC, 0);
        x.refer(Sorts.VIRTUAL, 0, 1, 0);
        x.refer(Sorts.GET, 0, 1, 0);
        x.write(1);
        x.type(1, 1, 0, 0, 0);
        x.member(1, true, 0, Sorts.PROTECTED, Sorts.FINAL);
        x.member(1, false, 0, Sorts.PUBLIC, 0);
        CHECKS.due("numbers differ in OLD", x.resolve(0, 0), Sorts.M + 1);
        CHECKS.due("numbers differ in NEW", x.resolve(1, 0), Sorts.M);
        CHECKS.due("the METHOD is ALIKE", x.compare(0), 0);
        CHECKS.due("the FIELD is ALIKE", x.compare(1), 0);
        x.remake(0, Sorts.PRIVATE, 0);
        x.write(0);
        x.remake(1, Sorts.PRIVATE, 0);
        CHECKS.due("BARRED, too", x.compare(0), 0);
    }

    /** 1 has the METHOD; 2 and 3 lie under it, 4 is ABSTRACT, 5 lies under 4. */
    private static LinkPredictor family() {
        LinkPredictor x = new LinkPredictor();
        x.type(1, 1, 0, 0, 0);
        x.type(2, 1, 0, 1, 0);
        x.type(3, 1, 0, 1, 0);
        x.type(4, 5, 0, 1, 0);
        x.type(5, 1, 0, 4, 0);
        x.member(1, true, 0, Sorts.PUBLIC, 0);
        x.member(3, true, 0, Sorts.PUBLIC, 0);
        x.refer(Sorts.VIRTUAL, 0, 1, 0);
        x.refer(Sorts.SPECIAL, 1, 1, 0);
        x.refer(Sorts.TYPE, 0, 1, 0);
        return x;
    }

    private static void receivers() {
        LinkPredictor x = family();
        CHECKS.due("in OLD", x.receivers(0, 0), 4);
        CHECKS.due("in NEW", x.receivers(0, 1), 0);
        CHECKS.due("none in NEW", x.receivers(0, 2), 4);
        CHECKS.due("in both", x.receivers(0, 3), 0);
        x.branch();
        CHECKS.due("in NEW", x.receivers(0, 1), 4);
        CHECKS.due("none lost", x.receivers(0, 2), 0);
        x.member(2, true, 0, Sorts.PUBLIC, 0);
        CHECKS.due("2 has another one", x.receivers(0, 3), 1);
        x.member(4, true, 0, Sorts.PUBLIC, Sorts.ABSTRACT);
        CHECKS.due("5 is CUT", x.receivers(0, 2), 1);
        x.type(3, 5, 0, 1, 0);
        CHECKS.due("3 is UNFIT", x.receivers(0, 2), 2);
        CHECKS.due("1 and 2 are left", x.receivers(0, 1), 2);
        x.remove(0);
        CHECKS.due("not GOOD", x.receivers(0, 2), 4);
        CHECKS.due("a new number", x.member(1, true, 0, Sorts.PUBLIC, 0), 4);
        CHECKS.due("ALIKE all the same", x.receivers(0, 3), 1);
        for (int what = 0; what < 4; what++) {
            CHECKS.due("SPECIAL", x.receivers(1, what), 0);
            CHECKS.due("TYPE", x.receivers(2, what), 0);
        }
    }

    private static void receiversRefuses() {
        LinkPredictor x = family();
        CHECKS.due("what 4", x.receivers(0, 4), LinkPredictor.REFUSED);
        CHECKS.due("what 4, SPECIAL", x.receivers(1, 4), LinkPredictor.REFUSED);
        CHECKS.due("none such", x.receivers(3, 0), LinkPredictor.REFUSED);
        for (int far : Sorts.FAR) {
            CHECKS.due("what far", x.receivers(0, far), LinkPredictor.REFUSED);
            CHECKS.due("i far", x.receivers(far, 0), LinkPredictor.REFUSED);
        }
    }

    private static void countsTypesAndMembers() {
        LinkPredictor x = new LinkPredictor();
        x.type(1, 1, 0, 9, 0);
        x.type(2, 7, 0, 0, 0);
        x.member(1, true, 0, 3, Sorts.ABSTRACT);
        x.member(1, false, 0, 3, Sorts.ABSTRACT);
        x.member(2, true, 0, 0, 7);
        x.member(0, true, 0, 0, 5);
        CHECKS.due("TYPES", x.count(0, 0), 3);
        CHECKS.due("LOADED", x.count(0, 4), 2);
        CHECKS.due("MEMBERS", x.count(0, 1), 4);
        CHECKS.due("all", x.count(0, 2), 4);
        CHECKS.due("ABSTRACT METHODS", x.count(0, 5), 2);
        x.remove(2);
        x.remove(3);
        CHECKS.due("MEMBERS", x.count(0, 1), 2);
        CHECKS.due("all", x.count(0, 2), 4);
        CHECKS.due("ABSTRACT METHODS", x.count(0, 5), 1);
        for (int what = 0; what <= 6; what++) {
            CHECKS.due("NEW " + what, x.count(1, what), what == 0 || what == 4 ? 1 : 0);
        }
    }

    private static void countsReferences() {
        LinkPredictor x = family();
        CHECKS.due("OLD", x.count(0, 3), 3);
        CHECKS.due("NEW", x.count(1, 3), 0);
        x.branch();
        CHECKS.due("NEW", x.count(1, 3), 3);
        x.remove(0);
        CHECKS.due("NEW", x.count(1, 3), 1);
        CHECKS.due("OLD", x.count(0, 3), 3);
        x.forget();
        CHECKS.due("none", x.count(0, 3), 0);
    }

    private static void countsNests() {
        LinkPredictor x = new LinkPredictor();
        for (int t = 1; t <= 6; t++) {
            x.type(t, 1, t <= 4 ? 0 : 1, 0, 0);
        }
        CHECKS.due("each its own", x.count(0, 6), 0);
        x.nest(2, 1);
        x.nest(3, 1);
        x.nest(6, 5);
        CHECKS.due("two NESTS", x.count(0, 6), 0b1101110);
        x.nest(4, 5);
        CHECKS.due("4 is of another PACKAGE", x.count(0, 6), 0b1101110);
        x.nest(4, 2);
        CHECKS.due("2 is not its own HOST", x.count(0, 6), 0b1101110);
        x.drop(5);
        CHECKS.due("5 is not THERE", x.count(0, 6), 0b1110);
        x.type(1, 1, 0, 9, 0);
        CHECKS.due("1 is not LOADED", x.count(0, 6), 0b1110);
        x.drop(1);
        CHECKS.due("2 and 3 have each their own", x.count(0, 6), 0);
        x.type(1, 1, 0, 0, 0);
        CHECKS.due("and are together again", x.count(0, 6), 0b1110);
        x.drop(2);
        x.drop(3);
        CHECKS.due("1 is alone", x.count(0, 6), 0);
        x.nest(1, 0);
        CHECKS.due("with the ROOT", x.count(0, 6), 0b11);
    }

    private static void countRefuses() {
        LinkPredictor x = new LinkPredictor();
        CHECKS.due("build 2", x.count(2, 0), LinkPredictor.REFUSED);
        CHECKS.due("what 7", x.count(0, 7), LinkPredictor.REFUSED);
        for (int far : Sorts.FAR) {
            CHECKS.due("build far", x.count(far, 0), LinkPredictor.REFUSED);
            CHECKS.due("what far", x.count(1, far), LinkPredictor.REFUSED);
        }
    }
}
