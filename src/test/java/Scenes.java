import java.util.List;
import java.util.function.Supplier;

/** Objects in a state that refused calls could spoil. Each call makes a new object, with no more than 60 calls. */
final class Scenes {
    /** The signs that MEMBERS of a rich object have. */
    static final int[] SIGNS = {0, 1, 14};

    private Scenes() {
    }

    static LinkPredictor fresh() {
        return new LinkPredictor();
    }

    /** Two BUILDS that are not the same, NEW being WRITTEN; TYPES 10 and 11 are not THERE. */
    static LinkPredictor rich() {
        LinkPredictor x = new LinkPredictor();
        x.type(1, 3, 0, 0, 0);
        x.type(2, 2, 1, 0, 1 << 1);
        x.type(3, 1, 0, 0, 1 << 1);
        x.type(4, 5, 1, 3, 1 << 2);
        x.type(5, 9, 1, 4, 0);
        x.type(6, 0, 2, 3, 0);
        x.type(7, 1, 3, 7, 0);
        x.type(8, 1, 3, 10, 0);
        x.type(9, 1, 0, 3, 0);
        x.nest(4, 2);
        x.nest(3, 0);
        x.nest(6, 10);
        x.member(1, true, 0, 3, 2);
        x.member(3, true, 0, 3, 0);
        x.member(4, true, 0, 2, 0);
        x.member(2, true, 1, 3, 0);
        x.member(3, false, 0, 0, 4);
        x.member(0, false, 1, 3, 1);
        x.member(5, true, 14, 1, 0);
        x.member(0, true, 14, 3, 4);
        x.member(6, true, 1, 0, 0);
        x.remove(7);
        x.branch();
        x.drop(6);
        x.type(9, 4, 0, 3, 1 << 1);
        x.nest(9, 3);
        x.remake(2, 0, 0);
        x.remake(4, 3, 1);
        x.member(5, true, 0, 3, 0);
        x.member(9, true, 0, 1, 0);
        x.remove(3);
        x.refer(Sorts.VIRTUAL, 0, 3, 0);
        x.refer(Sorts.FACE, 4, 1, 0);
        x.refer(Sorts.GET, 3, 3, 0);
        x.refer(Sorts.PUT_STATIC, 5, 4, 1);
        x.refer(Sorts.SPECIAL, 9, 3, 0);
        x.refer(Sorts.CALL_STATIC, 6, 6, 1);
        x.refer(Sorts.TYPE, 0, 6, 0);
        x.refer(Sorts.VIRTUAL, 4, 5, 1);
        return x;
    }

    static LinkPredictor richWithOldWritten() {
        LinkPredictor x = rich();
        x.write(0);
        return x;
    }

    /** 30 MEMBERS in both BUILDS, some GONE, and 16 REFERENCES; TYPE 1 has none, TYPES from 2 on are not THERE. */
    static LinkPredictor full() {
        LinkPredictor x = new LinkPredictor();
        x.type(1, 1, 0, 0, 0);
        for (int m = 0; m < 30; m++) {
            x.member(0, m >= 15, m % 15, 3, 0);
        }
        x.remove(2);
        x.remove(29);
        x.branch();
        for (int i = 0; i < 16; i++) {
            x.refer(i % 8, 0, 0, i % 15);
        }
        return x;
    }

    /** The scenes that every wrong number is tried on. */
    static List<Supplier<LinkPredictor>> all() {
        return List.of(Scenes::fresh, Scenes::rich, Scenes::richWithOldWritten, Scenes::full);
    }
}
