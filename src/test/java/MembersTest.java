/** Promises 5 to 7: member, remake, remove. */
public final class MembersTest {
    private static final Checks CHECKS = new Checks("MembersTest");

    public static void main(String[] args) {
        memberTakesItsNumbers();
        memberRefuses();
        memberIsFullAtThirty();
        remakeChanges();
        remakeRefuses();
        removeTakesAway();
        CHECKS.end();
    }

    private static void memberTakesItsNumbers() {
        LinkPredictor x = new LinkPredictor();
        x.type(11, 0, 0, 0, 0);
        CHECKS.due("first", x.member(0, true, 0, 0, 0), 0);
        CHECKS.due("the other kind", x.member(0, false, 0, 3, 7), 1);
        CHECKS.due("the other TYPE", x.member(11, true, 0, 3, 7), 2);
        CHECKS.due("the other sign", x.member(11, true, 14, 2, 1), 3);
        CHECKS.due("NEW has none", x.count(1, 2), 0);
        x.write(1);
        CHECKS.due("NEW begins at 0", x.member(0, true, 0, 3, 0), 0);
    }

    private static void memberRefuses() {
        LinkPredictor x = new LinkPredictor();
        x.type(1, 0, 0, 0, 0);
        x.member(1, true, 5, 3, 0);
        CHECKS.due("has one", x.member(1, true, 5, 1, 1), LinkPredictor.REFUSED);
        CHECKS.due("not THERE", x.member(2, true, 5, 3, 0), LinkPredictor.REFUSED);
        CHECKS.due("TYPE 12", x.member(12, true, 4, 3, 0), LinkPredictor.REFUSED);
        CHECKS.due("sign 15", x.member(1, true, 15, 3, 0), LinkPredictor.REFUSED);
        CHECKS.due("access 4", x.member(1, true, 4, 4, 0), LinkPredictor.REFUSED);
        CHECKS.due("flags 8", x.member(1, true, 4, 3, 8), LinkPredictor.REFUSED);
        for (int far : Sorts.FAR) {
            CHECKS.due("TYPE far", x.member(far, true, 4, 3, 0), LinkPredictor.REFUSED);
            CHECKS.due("sign far", x.member(1, false, far, 3, 0), LinkPredictor.REFUSED);
            CHECKS.due("access far", x.member(1, true, 4, far, 0), LinkPredictor.REFUSED);
            CHECKS.due("flags far", x.member(1, true, 4, 3, far), LinkPredictor.REFUSED);
        }
        CHECKS.due("none was made", x.count(0, 2), 1);
    }

    private static void memberIsFullAtThirty() {
        LinkPredictor x = new LinkPredictor();
        x.type(1, 0, 0, 0, 0);
        for (int m = 0; m < 30; m++) {
            CHECKS.due("member", x.member(0, m >= 15, m % 15, 3, 0), m);
        }
        CHECKS.due("the 31st", x.member(1, true, 0, 3, 0), LinkPredictor.FULL);
        CHECKS.due("one it has comes before FULL", x.member(0, true, 0, 3, 0), LinkPredictor.REFUSED);
        CHECKS.due("a wrong number comes before FULL", x.member(1, true, 15, 3, 0), LinkPredictor.REFUSED);
        CHECKS.due("not THERE comes before FULL", x.member(2, true, 0, 3, 0), LinkPredictor.REFUSED);
        CHECKS.yes("the last one goes", x.remove(29));
        CHECKS.due("GONE ones keep their numbers", x.member(0, true, 14, 3, 0), LinkPredictor.FULL);
        CHECKS.due("present", x.count(0, 1), 29);
        CHECKS.due("all", x.count(0, 2), 30);
        int i = x.refer(Sorts.GET, 0, 0, 14);
        CHECKS.due("a high number is told", x.resolve(0, i), Sorts.M + 14);
        x.remake(28, 3, Sorts.STATIC);
        i = x.refer(Sorts.VIRTUAL, 0, 0, 13);
        CHECKS.due("a high number is blamed", x.resolve(0, i), Sorts.CHANGED + Sorts.M + 28);
        CHECKS.yes("drop when it is FULL", x.drop(1));
        CHECKS.due("1 had none", x.count(0, 1), 29);
        x.write(1);
        CHECKS.due("NEW is not FULL", x.member(0, true, 0, 3, 0), 0);
    }

    private static void remakeChanges() {
        LinkPredictor x = new LinkPredictor();
        x.type(1, 1, 1, 0, 0);
        x.member(0, true, 0, Sorts.PUBLIC, 0);
        int call = x.refer(Sorts.VIRTUAL, 1, 0, 0);
        CHECKS.due("PUBLIC", x.resolve(0, call), Sorts.M);
        CHECKS.yes("PACKAGE", x.remake(0, Sorts.PACKAGE, 0));
        CHECKS.due("BARRED", x.resolve(0, call), Sorts.BARRED + Sorts.M);
        CHECKS.yes("STATIC", x.remake(0, Sorts.PUBLIC, Sorts.STATIC));
        CHECKS.due("CHANGED", x.resolve(0, call), Sorts.CHANGED + Sorts.M);
        CHECKS.yes("least", x.remake(0, 0, 0));
        CHECKS.yes("most", x.remake(0, 3, 7));
        CHECKS.due("ABSTRACT", x.count(0, 5), 1);
    }

    private static void remakeRefuses() {
        LinkPredictor x = new LinkPredictor();
        x.member(0, true, 0, Sorts.PUBLIC, 0);
        CHECKS.no("access 4", x.remake(0, 4, 2));
        CHECKS.no("flags 8", x.remake(0, 3, 8));
        CHECKS.no("none such", x.remake(1, 3, 2));
        for (int far : Sorts.FAR) {
            CHECKS.no("m far", x.remake(far, 3, 2));
            CHECKS.no("access far", x.remake(0, far, 2));
            CHECKS.no("flags far", x.remake(0, 3, far));
        }
        CHECKS.due("not changed", x.count(0, 5), 0);
        x.write(1);
        CHECKS.no("none in NEW", x.remake(0, 3, 2));
        x.write(0);
        x.remove(0);
        CHECKS.no("GONE", x.remake(0, 3, 2));
    }

    private static void removeTakesAway() {
        LinkPredictor x = new LinkPredictor();
        x.member(0, true, 0, Sorts.PUBLIC, 0);
        x.member(0, true, 1, Sorts.PUBLIC, 0);
        int call = x.refer(Sorts.VIRTUAL, 0, 0, 0);
        x.branch();
        CHECKS.no("none such", x.remove(2));
        for (int far : Sorts.FAR) {
            CHECKS.no("far", x.remove(far));
        }
        CHECKS.yes("remove", x.remove(0));
        CHECKS.no("again", x.remove(0));
        CHECKS.due("NO METHOD in NEW", x.resolve(1, call), Sorts.NO_METHOD);
        CHECKS.due("GOOD in OLD", x.resolve(0, call), Sorts.M);
        CHECKS.due("the other stays", x.count(1, 1), 1);
        CHECKS.due("a new number", x.member(0, true, 0, Sorts.PUBLIC, 0), 2);
        CHECKS.due("GOOD with that", x.resolve(1, call), Sorts.M + 2);
    }
}
