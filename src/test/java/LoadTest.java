/** Promises 12 and 17: load and isUnder. */
public final class LoadTest {
    private static final Checks CHECKS = new Checks("LoadTest");

    public static void main(String[] args) {
        missing();
        circular();
        changed();
        superComesBeforeFaces();
        whatComesOfParentsComesFirst();
        twoWaysToOneFace();
        loadRefuses();
        isUnder();
        isUnderOfLoadedTypesAlone();
        everyTypeInOneLadder();
        CHECKS.end();
    }

    private static void missing() {
        LinkPredictor x = new LinkPredictor();
        CHECKS.due("not THERE", x.load(0, 11), Sorts.MISSING + 11);
        x.type(1, 1, 0, 2, 0);
        x.type(2, 1, 0, 3, 0);
        CHECKS.due("far above", x.load(0, 1), Sorts.MISSING + 3);
        x.type(3, 1, 0, 0, 0);
        CHECKS.due("all is well", x.load(0, 1), 1);
        CHECKS.due("not in NEW", x.load(1, 1), Sorts.MISSING + 1);
    }

    private static void circular() {
        LinkPredictor x = new LinkPredictor();
        x.type(1, 1, 0, 2, 0);
        x.type(2, 1, 0, 3, 0);
        x.type(3, 1, 0, 2, 0);
        CHECKS.due("the one that comes again", x.load(0, 1), Sorts.CIRCULAR + 2);
        CHECKS.due("in the ring", x.load(0, 2), Sorts.CIRCULAR + 2);
        CHECKS.due("in the ring", x.load(0, 3), Sorts.CIRCULAR + 3);
        x.type(4, 3, 0, 0, 1 << 5);
        x.type(5, 3, 0, 0, 1 << 4);
        CHECKS.due("by FACES", x.load(0, 4), Sorts.CIRCULAR + 4);
        x.type(6, 3, 0, 0, 1 << 6);
        CHECKS.due("its own FACE", x.load(0, 6), Sorts.CIRCULAR + 6);
        x.type(7, 1, 0, 0, 1 << 8);
        x.type(8, 3, 0, 7, 0);
        CHECKS.due("by FACE and SUPER", x.load(0, 7), Sorts.CIRCULAR + 7);
        CHECKS.due("CIRCULAR before CHANGED", x.load(0, 8), Sorts.CIRCULAR + 8);
    }

    private static void changed() {
        LinkPredictor x = new LinkPredictor();
        x.type(1, 3, 0, 0, 0);
        x.type(2, 9, 0, 0, 0);
        x.type(3, 1, 0, 0, 0);
        x.type(4, 1, 0, 1, 0);
        CHECKS.due("SUPER is an INTERFACE", x.load(0, 4), Sorts.CHANGED + 4);
        x.type(4, 1, 0, 2, 0);
        CHECKS.due("SUPER is FINAL", x.load(0, 4), Sorts.CHANGED + 4);
        x.type(4, 1, 0, 0, 1 << 1 | 1 << 3);
        CHECKS.due("a FACE is none", x.load(0, 4), Sorts.CHANGED + 4);
        x.type(4, 1, 0, 0, 1);
        CHECKS.due("the ROOT is no FACE", x.load(0, 4), Sorts.CHANGED + 4);
        x.type(4, 3, 0, 3, 0);
        CHECKS.due("an INTERFACE with a SUPER", x.load(0, 4), Sorts.CHANGED + 4);
        x.type(5, 1, 0, 4, 0);
        CHECKS.due("it comes of those below", x.load(0, 5), Sorts.CHANGED + 4);
        x.type(4, 15, 0, 0, 1 << 1);
        CHECKS.due("FINAL and ABSTRACT do not matter for t", x.load(0, 4), 4);
        x.type(6, 1, 0, 0, 1 << 4);
        CHECKS.due("a FINAL FACE does not matter", x.load(0, 6), 6);
        x.type(6, 0, 3, 3, 1 << 1);
        CHECKS.due("PACKAGES do not matter", x.load(0, 6), 6);
    }

    private static void superComesBeforeFaces() {
        LinkPredictor x = new LinkPredictor();
        x.type(1, 1, 0, 9, 1 << 3 | 1 << 5);
        CHECKS.due("SUPER first", x.load(0, 1), Sorts.MISSING + 9);
        x.type(9, 1, 0, 0, 0);
        CHECKS.due("then FACE 3", x.load(0, 1), Sorts.MISSING + 3);
        x.type(3, 3, 0, 0, 1 << 8);
        CHECKS.due("what comes of FACE 3", x.load(0, 1), Sorts.MISSING + 8);
        x.type(8, 3, 0, 0, 0);
        CHECKS.due("then FACE 5", x.load(0, 1), Sorts.MISSING + 5);
        x.type(5, 3, 0, 0, 0);
        CHECKS.due("all is well", x.load(0, 1), 1);
    }

    private static void whatComesOfParentsComesFirst() {
        LinkPredictor x = new LinkPredictor();
        x.type(1, 3, 0, 0, 0);
        x.type(2, 1, 0, 1, 1 << 7);
        CHECKS.due("MISSING before CHANGED", x.load(0, 2), Sorts.MISSING + 7);
        x.type(7, 1, 0, 0, 1 << 7);
        CHECKS.due("CIRCULAR before CHANGED", x.load(0, 2), Sorts.CIRCULAR + 7);
        x.type(7, 1, 0, 1, 0);
        CHECKS.due("CHANGED 7 before CHANGED 2", x.load(0, 2), Sorts.CHANGED + 7);
    }

    private static void twoWaysToOneFace() {
        LinkPredictor x = new LinkPredictor();
        x.type(1, 3, 0, 0, 0);
        x.type(2, 3, 0, 0, 1 << 1);
        x.type(3, 3, 0, 0, 1 << 1);
        x.type(4, 1, 0, 0, 1 << 1 | 1 << 2 | 1 << 3);
        CHECKS.due("no ring", x.load(0, 4), 4);
        x.type(1, 3, 0, 0, 1 << 3);
        CHECKS.due("a ring 1, 3", x.load(0, 4), Sorts.CIRCULAR + 1);
        CHECKS.due("seen from 2", x.load(0, 2), Sorts.CIRCULAR + 1);
        CHECKS.due("seen from 3", x.load(0, 3), Sorts.CIRCULAR + 3);
    }

    private static void loadRefuses() {
        LinkPredictor x = new LinkPredictor();
        CHECKS.due("build 2", x.load(2, 0), LinkPredictor.REFUSED);
        CHECKS.due("type 12", x.load(0, 12), LinkPredictor.REFUSED);
        for (int far : Sorts.FAR) {
            CHECKS.due("build far", x.load(far, 0), LinkPredictor.REFUSED);
            CHECKS.due("type far", x.load(1, far), LinkPredictor.REFUSED);
        }
    }

    private static void isUnder() {
        LinkPredictor x = new LinkPredictor();
        x.type(1, 3, 0, 0, 0);
        x.type(2, 3, 0, 0, 1 << 1);
        x.type(3, 1, 0, 0, 1 << 2);
        x.type(4, 1, 0, 3, 0);
        x.type(5, 1, 0, 4, 0);
        x.branch();
        x.drop(1);
        int[] under = {0b1, 0b11, 0b111, 0b1111, 0b11111, 0b111111};
        for (int t = 0; t < 6; t++) {
            for (int u = 0; u < 12; u++) {
                CHECKS.due("isUnder(0, " + t + ", " + u + ")", x.isUnder(0, t, u) ? 1 : 0, under[t] >> u & 1);
                CHECKS.due("isUnder(1, " + t + ", " + u + ")", x.isUnder(1, t, u) ? 1 : 0, t + u == 0 ? 1 : 0);
            }
        }
        CHECKS.no("build 2", x.isUnder(2, 0, 0));
        CHECKS.no("t 12", x.isUnder(0, 12, 0));
        CHECKS.no("u 12", x.isUnder(0, 0, 12));
        for (int far : Sorts.FAR) {
            CHECKS.no("build far", x.isUnder(far, 0, 0));
            CHECKS.no("t far", x.isUnder(0, far, 0));
            CHECKS.no("u far", x.isUnder(0, 0, far));
        }
    }

    private static void isUnderOfLoadedTypesAlone() {
        LinkPredictor x = new LinkPredictor();
        x.type(1, 1, 0, 0, 0);
        x.type(2, 1, 0, 1, 0);
        CHECKS.yes("LOADED", x.isUnder(0, 2, 1));
        x.type(2, 1, 0, 1, 1 << 9);
        CHECKS.no("2 has a fault", x.isUnder(0, 2, 1));
        CHECKS.no("not even itself", x.isUnder(0, 2, 2));
        CHECKS.no("not THERE", x.isUnder(0, 3, 3));
        x.type(2, 1, 0, 0, 0);
        CHECKS.no("another SUPER now", x.isUnder(0, 2, 1));
    }

    private static void everyTypeInOneLadder() {
        LinkPredictor x = new LinkPredictor();
        for (int t = 1; t < 12; t++) {
            x.type(t, 3, 0, 0, (1 << t) - 2);
        }
        CHECKS.due("load 11", x.load(0, 11), 11);
        CHECKS.due("all", x.count(0, 4), 12);
        CHECKS.yes("11 under 1", x.isUnder(0, 11, 1));
        CHECKS.due("no FIELD, soon told", x.resolve(0, x.refer(0, 0, 11, 0)), Sorts.NO_FIELD + 11);
        x.type(1, 3, 0, 0, 1 << 11);
        CHECKS.due("a long ring", x.load(0, 11), Sorts.CIRCULAR + 11);
        CHECKS.due("all but the ROOT are in it", x.count(0, 4), 1);
        for (int t = 1; t < 12; t++) {
            x.type(t, 1, 0, t % 11 + 1, 0);
        }
        CHECKS.due("the longest ring", x.load(0, 5), Sorts.CIRCULAR + 5);
    }
}
