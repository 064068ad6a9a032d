/** Promises 1 to 4: a new object, type, nest, drop. */
public final class TypesTest {
    private static final Checks CHECKS = new Checks("TypesTest");

    public static void main(String[] args) {
        newObject();
        typeTakesItsNumbers();
        typeRefusesWrongNumbers();
        typeMadeAnewKeepsMembersAndIsItsOwnHost();
        nestTakesItsNumbers();
        nestRefuses();
        dropTakesMembersAlong();
        dropRefuses();
        CHECKS.end();
    }

    private static void newObject() {
        LinkPredictor x = new LinkPredictor();
        for (int build = 0; build < 2; build++) {
            CHECKS.due("count(b, 0)", x.count(build, 0), 1);
            CHECKS.due("count(b, 2)", x.count(build, 2), 0);
            CHECKS.due("load(b, 0)", x.load(build, 0), 0);
            for (int t = 1; t < 12; t++) {
                CHECKS.due("load(b, t)", x.load(build, t), Sorts.MISSING + t);
            }
        }
        CHECKS.due("forget()", x.forget(), 0);
        CHECKS.yes("type of OLD", x.type(1, 1, 0, 0, 0));
        CHECKS.due("OLD is WRITTEN", x.count(0, 0), 2);
        CHECKS.due("NEW is not", x.count(1, 0), 1);
        CHECKS.due("the ROOT is PUBLIC", reachRootFromPackage3(x), 0);
    }

    private static int reachRootFromPackage3(LinkPredictor x) {
        x.type(2, 0, 3, 0, 0);
        return x.resolve(0, x.refer(Sorts.TYPE, 2, 0, 0));
    }

    private static void typeTakesItsNumbers() {
        LinkPredictor x = new LinkPredictor();
        CHECKS.yes("least", x.type(1, 0, 0, 0, 0));
        CHECKS.yes("most", x.type(11, 15, 3, 11, 4095));
        CHECKS.due("two and the ROOT", x.count(0, 0), 3);
        CHECKS.yes("SUPER not THERE", x.type(2, 0, 0, 9, 0));
        CHECKS.due("SUPER missing", x.load(0, 2), Sorts.MISSING + 9);
        CHECKS.yes("FACES not THERE", x.type(2, 0, 0, 0, 1 << 8 | 1 << 7));
        CHECKS.due("FACE missing", x.load(0, 2), Sorts.MISSING + 7);
        CHECKS.yes("itself", x.type(2, 0, 0, 2, 0));
        CHECKS.due("CIRCULAR", x.load(0, 2), Sorts.CIRCULAR + 2);
    }

    private static void typeRefusesWrongNumbers() {
        LinkPredictor x = new LinkPredictor();
        x.type(1, 1, 2, 0, 0);
        int[][] bounds = {{1, 11}, {0, 15}, {0, 3}, {0, 11}, {0, 4095}};
        for (int place = 0; place < 5; place++) {
            refuseAt(x, place, bounds[place][0] - 1);
            refuseAt(x, place, bounds[place][1] + 1);
            for (int far : Sorts.FAR) {
                if (far > bounds[place][1] || far < 0) {
                    refuseAt(x, place, far);
                }
            }
        }
        CHECKS.due("nothing new", x.count(0, 0), 2);
        CHECKS.due("nothing changed", x.load(0, 1), 1);
    }

    private static void refuseAt(LinkPredictor x, int place, int number) {
        int[] a = {1, 0, 0, 9, 0};
        a[place] = number;
        CHECKS.no("type, place " + place + ": " + number, x.type(a[0], a[1], a[2], a[3], a[4]));
    }

    private static void typeMadeAnewKeepsMembersAndIsItsOwnHost() {
        LinkPredictor x = new LinkPredictor();
        x.type(1, 1, 0, 0, 0);
        x.type(2, 1, 0, 0, 0);
        x.nest(2, 1);
        x.member(2, true, 0, 3, 0);
        CHECKS.due("nests", x.count(0, 6), 0b110);
        CHECKS.yes("again", x.type(2, 3, 1, 0, 0));
        CHECKS.due("its own HOST", x.count(0, 6), 0);
        CHECKS.yes("and back", x.type(2, 1, 0, 0, 0));
        CHECKS.due("its own HOST still", x.count(0, 6), 0);
        CHECKS.due("types", x.count(0, 0), 3);
        CHECKS.due("members", x.count(0, 1), 1);
        CHECKS.due("has it", x.member(2, true, 0, 3, 0), LinkPredictor.REFUSED);
    }

    private static void nestTakesItsNumbers() {
        LinkPredictor x = new LinkPredictor();
        x.type(1, 1, 0, 0, 0);
        x.type(11, 1, 0, 0, 0);
        CHECKS.yes("ROOT as HOST", x.nest(1, 0));
        CHECKS.due("with the ROOT", x.count(0, 6), 0b11);
        CHECKS.yes("the last TYPE as HOST", x.nest(1, 11));
        CHECKS.due("with 11", x.count(0, 6), 1 << 11 | 1 << 1);
        CHECKS.yes("not THERE as HOST", x.nest(11, 5));
        CHECKS.due("11 is not its own HOST", x.count(0, 6), 0);
        CHECKS.yes("5 is THERE now", x.type(5, 0, 0, 0, 0));
        CHECKS.due("5 and 11", x.count(0, 6), 1 << 11 | 1 << 5);
        CHECKS.yes("5 of another PACKAGE", x.type(5, 0, 1, 0, 0));
        CHECKS.due("none", x.count(0, 6), 0);
        CHECKS.yes("itself", x.nest(11, 11));
        CHECKS.due("1 and 11", x.count(0, 6), 1 << 11 | 1 << 1);
    }

    private static void nestRefuses() {
        LinkPredictor x = new LinkPredictor();
        x.type(1, 1, 0, 0, 0);
        CHECKS.no("t 0", x.nest(0, 1));
        CHECKS.no("t 12", x.nest(12, 1));
        CHECKS.no("h 12", x.nest(1, 12));
        CHECKS.no("not THERE", x.nest(2, 1));
        for (int far : Sorts.FAR) {
            CHECKS.no("t far", x.nest(far, 1));
            CHECKS.no("h far", x.nest(1, far));
        }
        x.branch();
        x.drop(1);
        CHECKS.no("of the BUILD that is WRITTEN", x.nest(1, 1));
        x.write(0);
        CHECKS.yes("of OLD", x.nest(1, 1));
    }

    private static void dropTakesMembersAlong() {
        LinkPredictor x = new LinkPredictor();
        x.type(1, 1, 0, 0, 0);
        x.type(2, 1, 0, 0, 0);
        x.member(1, true, 0, 3, 0);
        x.member(2, true, 0, 3, 0);
        x.member(1, false, 0, 3, 0);
        x.branch();
        CHECKS.yes("drop", x.drop(1));
        CHECKS.due("types", x.count(1, 0), 2);
        CHECKS.due("present", x.count(1, 1), 1);
        CHECKS.due("all", x.count(1, 2), 3);
        CHECKS.due("OLD stays", x.count(0, 1), 3);
        CHECKS.no("GONE 0", x.remove(0));
        CHECKS.no("GONE 2", x.remake(2, 3, 0));
        CHECKS.yes("1 stays", x.remake(1, 3, 0));
        CHECKS.yes("THERE again", x.type(1, 1, 0, 0, 0));
        CHECKS.due("without MEMBERS", x.count(1, 1), 1);
        CHECKS.due("a new number", x.member(1, true, 0, 3, 0), 3);
    }

    private static void dropRefuses() {
        LinkPredictor x = new LinkPredictor();
        CHECKS.no("the ROOT", x.drop(0));
        CHECKS.no("not THERE", x.drop(1));
        CHECKS.no("12", x.drop(12));
        for (int far : Sorts.FAR) {
            CHECKS.no("far", x.drop(far));
        }
        x.type(11, 0, 0, 0, 0);
        CHECKS.yes("11", x.drop(11));
        CHECKS.no("again", x.drop(11));
        CHECKS.due("the ROOT is THERE", x.count(0, 0), 1);
    }
}
