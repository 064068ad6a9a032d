/** Promises 8 to 11: branch, write, refer, forget. */
public final class BuildsTest {
    private static final Checks CHECKS = new Checks("BuildsTest");

    public static void main(String[] args) {
        branchCopiesAll();
        branchOverwritesNew();
        branchLeavesTwoBuilds();
        writeChooses();
        referTakesItsNumbers();
        referRefuses();
        referIsFullAtSixteen();
        forgetTakesAll();
        CHECKS.end();
    }

    private static LinkPredictor filled() {
        LinkPredictor x = new LinkPredictor();
        x.type(1, 3, 2, 0, 0);
        x.type(2, 1, 2, 0, 1 << 1);
        x.type(3, 0, 2, 2, 0);
        x.nest(3, 2);
        x.member(1, true, 0, Sorts.PUBLIC, 0);
        x.member(2, false, 1, Sorts.PRIVATE, Sorts.STATIC);
        x.member(2, true, 2, Sorts.PUBLIC, Sorts.ABSTRACT);
        x.remove(0);
        x.member(1, true, 0, Sorts.PUBLIC, Sorts.ABSTRACT);
        return x;
    }

    private static void branchCopiesAll() {
        LinkPredictor x = filled();
        CHECKS.due("TYPES THERE", x.branch(), 4);
        for (int what = 0; what <= 6; what++) {
            CHECKS.due("count " + what, x.count(1, what), x.count(0, what));
        }
        for (int t = 0; t < 12; t++) {
            CHECKS.due("load " + t, x.load(1, t), x.load(0, t));
            for (int u = 0; u < 12; u++) {
                CHECKS.due("isUnder", x.isUnder(1, t, u) ? 1 : 0, x.isUnder(0, t, u) ? 1 : 0);
            }
        }
        CHECKS.due("present", x.count(1, 1), 3);
        CHECKS.due("all", x.count(1, 2), 4);
        CHECKS.due("NESTS", x.count(1, 6), 0b1100);
        CHECKS.no("GONE too", x.remove(0));
        int call = x.refer(Sorts.VIRTUAL, 3, 3, 0);
        CHECKS.due("the same number", x.resolve(1, call), Sorts.M + 3);
        int get = x.refer(Sorts.GET_STATIC, 3, 3, 1);
        CHECKS.due("PRIVATE in the NEST", x.resolve(1, get), Sorts.M + 1);
        CHECKS.due("the next number", x.member(3, true, 0, Sorts.PUBLIC, 0), 4);
        int cast = x.refer(Sorts.TYPE, 0, 3, 0);
        CHECKS.due("PACKAGES", x.resolve(1, cast), Sorts.BARRED + 3);
    }

    private static void branchOverwritesNew() {
        LinkPredictor x = filled();
        x.write(1);
        x.type(7, 1, 0, 0, 0);
        x.type(2, 9, 3, 7, 0);
        for (int m = 0; m < 9; m++) {
            x.member(7, true, m, Sorts.PUBLIC, 0);
        }
        x.remove(2);
        CHECKS.due("branch", x.branch(), 4);
        CHECKS.due("7 is THERE no more", x.load(1, 7), Sorts.MISSING + 7);
        CHECKS.due("MEMBERS as in OLD", x.count(1, 2), 4);
        CHECKS.yes("2 is not GONE", x.remake(2, 3, 0));
        CHECKS.due("load 3", x.load(1, 3), 3);
        CHECKS.due("branch again", x.branch(), 4);
        CHECKS.due("ABSTRACT as in OLD", x.count(1, 5), 2);
        CHECKS.due("the next number", x.member(2, true, 9, Sorts.PUBLIC, 0), 4);
        CHECKS.yes("it is THERE", x.remove(4));
        x.type(7, 1, 0, 0, 0);
        x.drop(7);
        x.type(7, 1, 0, 0, 0);
        CHECKS.due("nothing is left of NEW's own", x.member(7, true, 0, Sorts.PUBLIC, 0), 5);
        CHECKS.yes("it is THERE, too", x.remake(5, Sorts.PUBLIC, 0));
    }

    private static void branchLeavesTwoBuilds() {
        LinkPredictor x = filled();
        x.branch();
        CHECKS.yes("NEW is WRITTEN", x.drop(1));
        x.nest(3, 3);
        x.remake(2, 3, 0);
        CHECKS.due("NEW 2", x.load(1, 2), Sorts.MISSING + 1);
        CHECKS.due("OLD 2", x.load(0, 2), 2);
        CHECKS.due("OLD NESTS", x.count(0, 6), 0b1100);
        CHECKS.due("OLD ABSTRACT", x.count(0, 5), 2);
        CHECKS.due("OLD TYPES", x.count(0, 0), 4);
        CHECKS.due("a new object", new LinkPredictor().branch(), 1);
    }

    private static void writeChooses() {
        LinkPredictor x = new LinkPredictor();
        CHECKS.yes("NEW", x.write(1));
        x.type(1, 1, 0, 0, 0);
        CHECKS.no("2", x.write(2));
        for (int far : Sorts.FAR) {
            CHECKS.no("far", x.write(far));
        }
        x.type(2, 1, 0, 0, 0);
        CHECKS.due("NEW has both", x.count(1, 0), 3);
        CHECKS.yes("OLD", x.write(0));
        x.type(3, 1, 0, 0, 0);
        CHECKS.due("OLD has one", x.count(0, 0), 2);
        CHECKS.due("NEW stays", x.count(1, 0), 3);
    }

    private static void referTakesItsNumbers() {
        LinkPredictor x = new LinkPredictor();
        CHECKS.due("least", x.refer(0, 0, 0, 0), 0);
        CHECKS.due("most", x.refer(8, 11, 11, 14), 1);
        CHECKS.due("TYPES that are not THERE", x.refer(4, 5, 6, 7), 2);
        CHECKS.due("the same again", x.refer(4, 5, 6, 7), 3);
        CHECKS.due("d first", x.resolve(0, 2), Sorts.MISSING + 5);
        x.type(5, 1, 0, 0, 0);
        CHECKS.due("then r", x.resolve(0, 2), Sorts.MISSING + 6);
        x.branch();
        CHECKS.due("for both BUILDS", x.resolve(1, 3), Sorts.MISSING + 6);
    }

    private static void referRefuses() {
        LinkPredictor x = new LinkPredictor();
        CHECKS.due("kind 9", x.refer(9, 0, 0, 0), LinkPredictor.REFUSED);
        CHECKS.due("d 12", x.refer(0, 12, 0, 0), LinkPredictor.REFUSED);
        CHECKS.due("r 12", x.refer(0, 0, 12, 0), LinkPredictor.REFUSED);
        CHECKS.due("sign 15", x.refer(0, 0, 0, 15), LinkPredictor.REFUSED);
        CHECKS.due("sign 15, KIND 8", x.refer(8, 0, 0, 15), LinkPredictor.REFUSED);
        CHECKS.due("sign -1, KIND 8", x.refer(8, 0, 0, -1), LinkPredictor.REFUSED);
        for (int far : Sorts.FAR) {
            CHECKS.due("kind far", x.refer(far, 0, 0, 0), LinkPredictor.REFUSED);
            CHECKS.due("d far", x.refer(0, far, 0, 0), LinkPredictor.REFUSED);
            CHECKS.due("r far", x.refer(0, 0, far, 0), LinkPredictor.REFUSED);
            CHECKS.due("sign far", x.refer(0, 0, 0, far), LinkPredictor.REFUSED);
        }
        CHECKS.due("none was made", x.forget(), 0);
    }

    private static void referIsFullAtSixteen() {
        LinkPredictor x = new LinkPredictor();
        for (int i = 0; i < 16; i++) {
            CHECKS.due("refer", x.refer(i % 9, 0, i % 12, i % 15), i);
        }
        CHECKS.due("the 17th", x.refer(0, 0, 0, 0), LinkPredictor.FULL);
        CHECKS.due("a wrong number comes before FULL", x.refer(9, 0, 0, 0), LinkPredictor.REFUSED);
        CHECKS.due("the last one", x.resolve(0, 15), Sorts.MISSING + 3);
        CHECKS.due("none such", x.resolve(0, 16), LinkPredictor.REFUSED);
        CHECKS.due("all go", x.forget(), 16);
        CHECKS.due("the first again", x.refer(8, 0, 7, 0), 0);
        CHECKS.due("it is the new one", x.resolve(0, 0), Sorts.MISSING + 7);
    }

    private static void forgetTakesAll() {
        LinkPredictor x = new LinkPredictor();
        x.refer(8, 0, 0, 0);
        x.refer(4, 0, 0, 0);
        CHECKS.due("two", x.forget(), 2);
        CHECKS.due("none", x.forget(), 0);
        CHECKS.due("resolve", x.resolve(0, 0), LinkPredictor.REFUSED);
        CHECKS.due("select", x.select(0, 1, 0), LinkPredictor.REFUSED);
        CHECKS.due("compare", x.compare(0), LinkPredictor.REFUSED);
        CHECKS.due("receivers", x.receivers(1, 0), LinkPredictor.REFUSED);
        CHECKS.due("count 3", x.count(0, 3), 0);
    }
}
