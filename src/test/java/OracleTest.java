/** Long runs of calls, made by a counter that is always the same, answered as by Oracle; all promises. */
public final class OracleTest {
    private static final int RUNS = 1500;
    private static final int CALLS = 512;
    private static final int[] EDGES = {-1, 12, 15, 16, 4, 8, 9, 4096, 2, 7, Integer.MIN_VALUE, Integer.MAX_VALUE};

    private final Checks checks = new Checks("OracleTest");
    private final int[] sorts = new int[9];
    private final int[] compared = new int[5];
    private final int[] selected = new int[9];
    private long seed = 20261118;
    private LinkPredictor x;
    private Oracle o;
    // Which TYPE stands at a rank; a tidy TYPE has parents of lower ranks.
    private final int[] ranks = new int[12];
    private int signs;
    private int packs;
    private int wrongOnceIn;

    public static void main(String[] args) {
        OracleTest test = new OracleTest();
        for (int run = 0; run < RUNS; run++) {
            test.run();
        }
        test.everythingWasSeen();
        test.checks.end();
    }

    private int any(int bound) {
        seed = seed * 6364136223846793005L + 1442695040888963407L;
        return (int) ((seed >>> 33) % bound);
    }

    private int seldomWrong(int good) {
        return any(wrongOnceIn) == 0 ? EDGES[any(EDGES.length)] : good;
    }

    private void run() {
        x = new LinkPredictor();
        o = new Oracle();
        signs = 1 + any(3);
        packs = 1 + any(4);
        wrongOnceIn = 2000;
        boolean tidy = any(4) != 0;
        rankTypes(any(2) == 0);
        for (int rank = 1; rank < 12; rank++) {
            if (tidy || any(3) != 0) {
                makeType(rank, tidy);
            }
        }
        for (int n = 0; n < 12; n++) {
            makeMember();
        }
        for (int n = 0; n < 12; n++) {
            makeReference();
        }
        same("branch()", x.branch(), o.branch());
        wrongOnceIn = 100;
        for (int calls = 36; calls < CALLS; calls++) {
            call(tidy);
        }
    }

    /** By their numbers, or shuffled, so that what is asked first or has the least number may lie below the others. */
    private void rankTypes(boolean shuffled) {
        for (int rank = 0; rank < 12; rank++) {
            ranks[rank] = rank;
        }
        for (int rank = 11; shuffled && rank > 1; rank--) {
            int other = 1 + any(rank);
            int t = ranks[rank];
            ranks[rank] = ranks[other];
            ranks[other] = t;
        }
    }

    private int anyFace() {
        return ranks[1 + any(5)];
    }

    private int anyClass() {
        return ranks[6 + any(6)];
    }

    private int ranked(int set) {
        int types = 0;
        for (int rank = 0; rank < 12; rank++) {
            types |= (set >> rank & 1) << ranks[rank];
        }
        return types;
    }

    private void call(boolean tidy) {
        int what = any(40);
        if (what < 2) {
            makeType(1 + any(11), tidy || any(3) != 0);
        } else if (what < 4) {
            makeMember();
        } else if (what < 6) {
            makeReference();
        } else if (what < 12) {
            change(any(12));
        } else {
            ask(any(7));
        }
    }

    /** A tidy TYPE has parents of lower ranks, of which 1 to 5 are those of INTERFACES. */
    private void makeType(int rank, boolean tidy) {
        int flags = any(8) == 0 ? 0 : 1;
        int above = 0;
        int faces = any(4096) & any(4096);
        if (tidy) {
            flags |= rank <= 5 ? 2 : any(6) == 0 ? 4 : 0;
            above = rank <= 6 || any(3) == 0 ? 0 : ranks[6 + any(rank - 6)];
            faces = ranked(faces & (rank <= 5 ? (1 << rank) - 2 : 0b111110));
        } else {
            flags = any(16) & any(16);
            above = any(3) == 0 ? 0 : any(12);
            faces &= any(4096);
        }
        int pack = seldomWrong(any(packs));
        int t = seldomWrong(ranks[rank]);
        flags = seldomWrong(flags);
        above = seldomWrong(above);
        faces = seldomWrong(faces);
        same("type", x.type(t, flags, pack, above, faces), o.type(t, flags, pack, above, faces));
    }

    private void makeMember() {
        int t = seldomWrong(any(2) == 0 ? any(12) : anyFace());
        boolean method = any(4) != 0;
        int sign = seldomWrong(any(signs));
        int access = seldomWrong(any(2) == 0 ? 3 : any(4));
        int flags = seldomWrong(any(2) == 0 ? 0 : any(8) & any(8));
        same("member", x.member(t, method, sign, access, flags), o.member(t, method, sign, access, flags));
    }

    private void makeReference() {
        int kind = seldomWrong(any(2) == 0 ? any(9) : any(2) == 0 ? 7 : 4 + any(2));
        int d = seldomWrong(kind == 5 ? anyClass() : any(12));
        int r = seldomWrong(kind == 7 && any(5) != 0 ? anyFace() : any(12));
        int sign = seldomWrong(any(signs));
        same("refer", x.refer(kind, d, r, sign), o.refer(kind, d, r, sign));
    }

    private void change(int what) {
        int t = seldomWrong(any(12));
        int u = seldomWrong(any(12));
        int m = seldomWrong(any(30));
        int access = seldomWrong(any(2) == 0 ? 3 : any(4));
        int flags = seldomWrong(any(8) & any(8));
        if (what < 4) {
            same("remake", x.remake(m, access, flags), o.remake(m, access, flags));
        } else if (what < 7) {
            same("nest", x.nest(t, u), o.nest(t, u));
        } else if (what == 7) {
            same("remove", x.remove(m), o.remove(m));
        } else if (what == 8 && any(8) == 0) {
            same("drop", x.drop(t), o.drop(t));
        } else if (what == 9) {
            int build = seldomWrong(any(2));
            same("write", x.write(build), o.write(build));
        } else if (what == 10 && any(4) == 0) {
            same("branch", x.branch(), o.branch());
        } else if (what == 11 && any(10) == 0) {
            same("forget", x.forget(), o.forget());
        }
    }

    private void ask(int what) {
        int build = seldomWrong(any(2));
        int t = seldomWrong(any(12));
        int u = seldomWrong(any(12));
        int i = seldomWrong(any(16));
        int n = seldomWrong(any(7));
        int half = seldomWrong(any(4));
        if (what == 0) {
            same("load", seen(sorts, x.load(build, t)), o.load(build, t));
        } else if (what == 1) {
            same("resolve", seen(sorts, x.resolve(build, i)), o.resolve(build, i));
        } else if (what == 2) {
            int c = any(3) == 0 ? t : anyClass();
            same("select", seen(selected, x.select(build, i, c)), o.select(build, i, c));
        } else if (what == 3) {
            int got = x.compare(i);
            compared[Math.max(got, 0)]++;
            same("compare", got, o.compare(i));
        } else if (what == 4) {
            same("receivers", x.receivers(i, half), o.receivers(i, half));
        } else if (what == 5) {
            same("isUnder", x.isUnder(build, t, u), o.isUnder(build, t, u));
        } else {
            same("count", x.count(build, n), o.count(build, n));
        }
    }

    private static int seen(int[] tally, int verdict) {
        if (verdict >= 0) {
            tally[verdict / 64]++;
        }
        return verdict;
    }

    private void everythingWasSeen() {
        for (int sort = 0; sort < 8; sort++) {
            checks.yes("VERDICTS of sort " + sort + " were seen", sorts[sort] > 100);
        }
        for (int sort : new int[] {0, 3, 4, 7, 8}) {
            checks.yes("what is SELECTED, sort " + sort, selected[sort] > 100);
        }
        for (int n : compared) {
            checks.yes("compare answered each number", n > 100);
        }
    }

    private void same(String call, int got, int want) {
        checks.due(call, got, want);
    }

    private void same(String call, boolean got, boolean want) {
        checks.due(call, got ? 1 : 0, want ? 1 : 0);
    }
}
