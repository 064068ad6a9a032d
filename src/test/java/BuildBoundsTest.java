/** The edges of promises 8 to 11, sentence by sentence: branch, write, refer, forget. */
public final class BuildBoundsTest {
    private static final Checks CHECKS = new Checks("BuildBoundsTest");

    public static void main(String[] args) {
        branchTellsHowManyTypes();
        branchMakesNewAsOldIs();
        branchOfTheLastType();
        branchOfTheLastMember();
        branchCopiesGoneMembers();
        branchLeavesNothingOfNew();
        branchLeavesOldAndReferences();
        newIsWrittenAfterBranch();
        writeChooses();
        writeRefusesOtherNumbers();
        referNumbers();
        referTakesEveryNumber();
        referRefusesWrongNumbers();
        referIsFullAtSixteen();
        forgetTellsHowMany();
        forgetTakesAllAndNothingElse();
        CHECKS.end();
    }

    private static int told(LinkPredictor x, int build, int kind, int d, int r, int sign) {
        x.forget();
        return x.resolve(build, x.refer(kind, d, r, sign));
    }

    private static void branchTellsHowManyTypes() {
        CHECKS.sentence("and is WRITTEN from now on: how many TYPES are THERE, the ROOT too.");
        LinkPredictor x = new LinkPredictor();
        CHECKS.due("the ROOT alone", x.branch(), 1);
        for (int t = 1; t <= 11; t++) {
            x.write(0);
            x.type(t, 1, 0, 11, 0);
            CHECKS.due("TYPES up to " + t, x.branch(), t + 1);
        }
        for (int t = 11; t >= 1; t--) {
            x.write(0);
            x.drop(t);
            CHECKS.due("TYPES below " + t, x.branch(), t);
        }
    }

    private static void branchMakesNewAsOldIs() {
        CHECKS.sentence("The NEW BUILD becomes as the OLD one is");
        LinkPredictor x = Scenes.rich();
        x.branch();
        for (int what = 0; what <= 6; what++) {
            CHECKS.due("count " + what, x.count(1, what), x.count(0, what));
        }
        for (int t = 0; t <= 11; t++) {
            CHECKS.due("load " + t, x.load(1, t), x.load(0, t));
        }
        for (int i = 0; i < 8; i++) {
            CHECKS.due("resolve " + i, x.resolve(1, i), x.resolve(0, i));
            CHECKS.due("compare " + i, x.compare(i), 0);
            for (int c = 0; c <= 11; c++) {
                CHECKS.due("select " + i + " for " + c, x.select(1, i, c), x.select(0, i, c));
            }
        }
        for (int d = 0; d <= 9; d++) {
            sameFor(d);
        }
    }

    private static void sameFor(int d) {
        LinkPredictor x = Scenes.rich();
        x.branch();
        for (int r = 0; r <= 9; r++) {
            for (int kind = 0; kind <= 8; kind++) {
                x.forget();
                int i = x.refer(kind, d, r, kind % 2);
                CHECKS.due("kind " + kind + " from " + d + " by " + r, x.resolve(1, i), x.resolve(0, i));
            }
        }
    }

    /** TYPE 11 with all that a TYPE has. */
    private static void branchOfTheLastType() {
        CHECKS.sentence("The NEW BUILD becomes as the OLD one is");
        LinkPredictor x = new LinkPredictor();
        x.type(1, 3, 2, 0, 0);
        x.type(2, 1, 2, 0, 0);
        x.type(11, 4, 2, 2, 1 << 1);
        x.nest(11, 2);
        x.member(2, true, 0, Sorts.PRIVATE, 0);
        x.member(2, true, 1, Sorts.PUBLIC, 0);
        x.write(1);
        x.type(11, 1, 0, 0, 0);
        CHECKS.due("branch", x.branch(), 4);
        CHECKS.due("load", x.load(1, 11), 11);
        CHECKS.yes("SUPER", x.isUnder(1, 11, 2));
        CHECKS.yes("FACES", x.isUnder(1, 11, 1));
        CHECKS.due("not PUBLIC, another PACKAGE", told(x, 1, Sorts.TYPE, 0, 11, 0), Sorts.BARRED + 11);
        CHECKS.due("PACKAGE", told(x, 1, Sorts.TYPE, 2, 11, 0), 11);
        CHECKS.due("HOST", told(x, 1, Sorts.VIRTUAL, 11, 2, 0), Sorts.M);
        int call = x.refer(Sorts.VIRTUAL, 2, 2, 1);
        CHECKS.due("ABSTRACT", x.select(1, call, 11), Sorts.UNFIT + 11);
    }

    private static void branchOfTheLastMember() {
        CHECKS.sentence("(MEMBERS with their numbers, also those that are GONE)");
        LinkPredictor x = new LinkPredictor();
        x.type(1, 1, 1, 0, 0);
        x.type(11, 1, 0, 0, 0);
        for (int m = 0; m < 29; m++) {
            x.member(1, m >= 15, m % 15, 3, 0);
        }
        x.member(11, true, 14, Sorts.PACKAGE, Sorts.STATIC);
        x.branch();
        CHECKS.due("TYPE and sign", told(x, 1, Sorts.CALL_STATIC, 0, 11, 14), Sorts.M + 29);
        CHECKS.due("ACCESS", told(x, 1, Sorts.CALL_STATIC, 1, 11, 14), Sorts.BARRED + Sorts.M + 29);
        CHECKS.due("FLAGS", told(x, 1, Sorts.VIRTUAL, 0, 11, 14), Sorts.CHANGED + Sorts.M + 29);
        for (int m = 0; m < 29; m++) {
            int kind = m >= 15 ? Sorts.VIRTUAL : Sorts.GET;
            CHECKS.due("MEMBER " + m, told(x, 1, kind, 0, 1, m % 15), Sorts.M + m);
        }
        CHECKS.due("there are 30", x.member(1, true, 14, 3, 0), LinkPredictor.FULL);
    }

    private static void branchCopiesGoneMembers() {
        CHECKS.sentence("(MEMBERS with their numbers, also those that are GONE)");
        LinkPredictor x = new LinkPredictor();
        for (int m = 0; m < 30; m++) {
            x.member(0, m >= 15, m % 15, 3, 0);
        }
        for (int m = 0; m < 30; m += 29) {
            x.remove(m);
        }
        x.branch();
        CHECKS.due("all", x.count(1, 2), 30);
        CHECKS.due("not GONE", x.count(1, 1), 28);
        for (int m = 0; m < 30; m++) {
            CHECKS.due("remove " + m, x.remove(m) ? 1 : 0, m % 29 == 0 ? 0 : 1);
        }
        x.branch();
        CHECKS.due("those of OLD are not GONE", x.count(1, 1), 28);
    }

    private static void branchLeavesNothingOfNew() {
        CHECKS.sentence("The NEW BUILD becomes as the OLD one is");
        LinkPredictor x = new LinkPredictor();
        x.write(1);
        for (int t = 1; t <= 11; t++) {
            x.type(t, 3, 1, 0, 0);
        }
        for (int m = 0; m < 30; m++) {
            x.member(m % 12, true, m / 12, 3, Sorts.ABSTRACT);
        }
        x.remove(0);
        CHECKS.due("branch", x.branch(), 1);
        CHECKS.due("TYPES", x.count(1, 0), 1);
        CHECKS.due("MEMBERS", x.count(1, 2), 0);
        CHECKS.due("ABSTRACT", x.count(1, 5), 0);
        for (int t = 1; t <= 11; t++) {
            CHECKS.due("load " + t, x.load(1, t), Sorts.MISSING + t);
        }
        CHECKS.due("the first number", x.member(0, true, 0, 3, 0), 0);
        CHECKS.yes("it is not GONE", x.remake(0, 3, 0));
    }

    private static void branchLeavesOldAndReferences() {
        CHECKS.sentence("The NEW BUILD becomes as the OLD one is");
        LinkPredictor x = Scenes.rich();
        LinkPredictor same = Scenes.rich();
        x.branch();
        for (int what = 0; what <= 6; what++) {
            CHECKS.due("OLD, count " + what, x.count(0, what), same.count(0, what));
        }
        for (int i = 0; i <= 8; i++) {
            CHECKS.due("OLD, resolve " + i, x.resolve(0, i), same.resolve(0, i));
        }
        x.drop(3);
        x.remake(1, 0, 7);
        x.nest(9, 0);
        x.member(0, true, 2, 3, 0);
        for (int what = 0; what <= 6; what++) {
            CHECKS.due("OLD stays, count " + what, x.count(0, what), same.count(0, what));
        }
        for (int i = 0; i <= 8; i++) {
            CHECKS.due("OLD stays, resolve " + i, x.resolve(0, i), same.resolve(0, i));
        }
        CHECKS.due("REFERENCES", x.forget(), 8);
    }

    private static void newIsWrittenAfterBranch() {
        CHECKS.sentence("and is WRITTEN from now on");
        for (int build = 0; build < 2; build++) {
            LinkPredictor x = new LinkPredictor();
            x.write(build);
            x.branch();
            x.type(1, 1, 0, 0, 0);
            CHECKS.due("NEW", x.count(1, 0), 2);
            CHECKS.due("OLD", x.count(0, 0), 1);
        }
    }

    private static void writeChooses() {
        CHECKS.sentence("The BUILD that is WRITTEN is OLD (0) or NEW (1) from now on: true");
        LinkPredictor x = new LinkPredictor();
        int[] order = {0, 1, 1, 0, 0, 1, 0};
        int[] types = {1, 1};
        for (int n = 0; n < order.length; n++) {
            CHECKS.yes("write " + order[n], x.write(order[n]));
            x.type(n + 1, 1, 0, 0, 0);
            types[order[n]]++;
            CHECKS.due("OLD", x.count(0, 0), types[0]);
            CHECKS.due("NEW", x.count(1, 0), types[1]);
        }
    }

    private static void writeRefusesOtherNumbers() {
        CHECKS.sentence("true; false for another number.");
        Refusals.everyWrongNumber(CHECKS, "write", (x, a) -> x.write(a[0]) ? 1 : 0, 0, new int[] {0}, Range.BUILD);
    }

    private static void referNumbers() {
        CHECKS.sentence("A REFERENCE: its number.");
        LinkPredictor x = new LinkPredictor();
        for (int i = 0; i < 16; i++) {
            CHECKS.due("refer", x.refer(Sorts.TYPE, 0, i % 12, 0), i);
        }
        for (int i = 0; i < 16; i++) {
            int r = i % 12;
            CHECKS.due("resolve " + i, x.resolve(0, i), r == 0 ? 0 : Sorts.MISSING + r);
        }
    }

    private static void referTakesEveryNumber() {
        CHECKS.sentence("REFUSED if kind is not 0 to 8, d or r not 0 to 11, or sign (as for member, also for KIND 8)");
        for (int kind = 0; kind <= 8; kind++) {
            LinkPredictor x = new LinkPredictor();
            for (int sign = 0; sign <= 14; sign++) {
                CHECKS.due("kind " + kind + " sign " + sign, x.refer(kind, 0, 0, sign), sign);
            }
        }
        for (int t = 0; t <= 11; t++) {
            LinkPredictor x = new LinkPredictor();
            CHECKS.due("d " + t, x.refer(Sorts.TYPE, t, 0, 0), 0);
            CHECKS.due("r " + t, x.refer(Sorts.TYPE, 0, t, 0), 1);
            CHECKS.due("d " + t + " is not THERE", x.resolve(1, 0), t == 0 ? 0 : Sorts.MISSING + t);
            CHECKS.due("r " + t + " is not THERE", x.resolve(1, 1), t == 0 ? 0 : Sorts.MISSING + t);
        }
    }

    private static void referRefusesWrongNumbers() {
        CHECKS.sentence("or sign (as for member, also for KIND 8) not 0 to 14");
        Range[] ranges = {new Range(0, 8), Range.TYPE, Range.TYPE, Range.SIGN};
        Refusals.Call refer = (x, a) -> x.refer(a[0], a[1], a[2], a[3]);
        Refusals.everyWrongNumber(CHECKS, "refer", refer, LinkPredictor.REFUSED, new int[] {4, 0, 0, 0}, ranges);
        Refusals.everyWrongNumber(CHECKS, "refer", refer, LinkPredictor.REFUSED, new int[] {8, 11, 11, 14}, ranges);
    }

    private static void referIsFullAtSixteen() {
        CHECKS.sentence("not 0 to 14; FULL if there are 16.");
        LinkPredictor x = new LinkPredictor();
        for (int i = 0; i < 15; i++) {
            x.refer(Sorts.TYPE, 0, 0, 0);
        }
        CHECKS.due("the 16th", x.refer(Sorts.TYPE, 0, 11, 0), 15);
        CHECKS.due("the 17th", x.refer(Sorts.TYPE, 0, 0, 0), LinkPredictor.FULL);
        CHECKS.due("the 16th stays", x.resolve(0, 15), Sorts.MISSING + 11);
        CHECKS.due("there is no 17th", x.resolve(0, 16), LinkPredictor.REFUSED);
        Refusals full = new Refusals(CHECKS, Scenes::full);
        for (int kind = 0; kind <= 8; kind++) {
            int number = kind;
            full.due("kind " + kind, y -> y.refer(number, 0, 1, 14), LinkPredictor.FULL);
        }
        full.due("a wrong kind comes before FULL", y -> y.refer(9, 0, 0, 0), LinkPredictor.REFUSED);
        full.due("a wrong d comes before FULL", y -> y.refer(0, 12, 0, 0), LinkPredictor.REFUSED);
        full.due("a wrong r comes before FULL", y -> y.refer(0, 0, 12, 0), LinkPredictor.REFUSED);
        full.due("a wrong sign comes before FULL", y -> y.refer(8, 0, 0, 15), LinkPredictor.REFUSED);
    }

    private static void forgetTellsHowMany() {
        CHECKS.sentence("There are no REFERENCES any more: how many there were.");
        LinkPredictor x = new LinkPredictor();
        for (int many = 0; many <= 16; many++) {
            for (int i = 0; i < many; i++) {
                CHECKS.due("they begin at 0 again", x.refer(Sorts.TYPE, 0, 0, 0), i);
            }
            CHECKS.due("forget " + many, x.forget(), many);
            CHECKS.due("and again", x.forget(), 0);
        }
    }

    private static void forgetTakesAllAndNothingElse() {
        CHECKS.sentence("There are no REFERENCES any more");
        LinkPredictor x = Scenes.full();
        x.forget();
        for (int i = 0; i <= 16; i++) {
            CHECKS.due("resolve " + i, x.resolve(0, i), LinkPredictor.REFUSED);
            CHECKS.due("select " + i, x.select(1, i, 0), LinkPredictor.REFUSED);
            CHECKS.due("compare " + i, x.compare(i), LinkPredictor.REFUSED);
            CHECKS.due("receivers " + i, x.receivers(i, 0), LinkPredictor.REFUSED);
        }
        CHECKS.due("GOOD in OLD", x.count(0, 3), 0);
        CHECKS.due("GOOD in NEW", x.count(1, 3), 0);
        CHECKS.due("MEMBERS stay", x.count(0, 1), 28);
        CHECKS.due("MEMBERS stay", x.count(1, 2), 30);
        CHECKS.due("TYPES stay", x.count(0, 0), 2);
        Refusals fresh = new Refusals(CHECKS, Scenes::fresh);
        fresh.due("nothing to forget", LinkPredictor::forget, 0);
        x.drop(1);
        CHECKS.due("NEW is WRITTEN still", x.count(1, 0), 1);
    }
}
