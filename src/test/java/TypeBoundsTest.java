/** The edges of promises 1 to 4, sentence by sentence: a new object, type, nest, drop. */
public final class TypeBoundsTest {
    private static final Checks CHECKS = new Checks("TypeBoundsTest");

    public static void main(String[] args) {
        constants();
        newObjectWritesOld();
        newObjectHasTheRootAlone();
        newObjectHasNoMembers();
        newObjectHasNoReferences();
        objectsDoNotShare();
        rootIsAsSaid();
        rootStaysSo();
        everyType();
        everyTypeOfBothBuilds();
        everySetOfFlags();
        everyPackage();
        everySuper();
        everyFace();
        hostIsItselfAtFirst();
        typeIsItsOwnHost();
        typeOfTheWrittenBuild();
        typeKeepsItsMembers();
        typeRefusesWrongNumbers();
        nestTakesEveryHost();
        nestOfTheWrittenBuild();
        nestOfWhatIsNotThere();
        nestRefusesWrongNumbers();
        dropOfEveryType();
        dropTakesMembersAlong();
        dropOfWhatIsNotThere();
        dropRefusesWrongNumbers();
        CHECKS.end();
    }

    private static void constants() {
        CHECKS.sentence("`REFUSED = -1`: A number is not as said, or something that must be there is not.");
        CHECKS.due("REFUSED", LinkPredictor.REFUSED, -1);
        CHECKS.sentence("`NONE = -2`: There is no such thing.");
        CHECKS.due("NONE", LinkPredictor.NONE, -2);
        CHECKS.sentence("`FULL = -3`: There is no room.");
        CHECKS.due("FULL", LinkPredictor.FULL, -3);
    }

    private static void newObjectWritesOld() {
        CHECKS.sentence("The BUILD that is WRITTEN is OLD; in both BUILDS");
        LinkPredictor x = new LinkPredictor();
        CHECKS.yes("type", x.type(1, 1, 0, 0, 0));
        CHECKS.due("member", x.member(1, true, 0, 3, 0), 0);
        CHECKS.due("OLD has the TYPE", x.count(0, 0), 2);
        CHECKS.due("NEW has not", x.count(1, 0), 1);
        CHECKS.due("OLD has the MEMBER", x.count(0, 2), 1);
        CHECKS.due("NEW has not", x.count(1, 2), 0);
    }

    private static void newObjectHasTheRootAlone() {
        CHECKS.sentence("in both BUILDS the ROOT alone is THERE");
        LinkPredictor x = new LinkPredictor();
        for (int build = 0; build < 2; build++) {
            CHECKS.due("TYPES THERE", x.count(build, 0), 1);
            CHECKS.due("LOADED", x.count(build, 4), 1);
            CHECKS.due("NESTS", x.count(build, 6), 0);
            for (int t = 0; t < 12; t++) {
                CHECKS.due("load " + t, x.load(build, t), t == 0 ? 0 : Sorts.MISSING + t);
                CHECKS.due("under itself " + t, x.isUnder(build, t, t) ? 1 : 0, t == 0 ? 1 : 0);
            }
        }
        for (int build = 0; build < 2; build++) {
            x.write(build);
            for (int t = 1; t < 12; t++) {
                CHECKS.no("nest " + t, x.nest(t, 0));
                CHECKS.no("drop " + t, x.drop(t));
                CHECKS.due("member of " + t, x.member(t, true, 0, 3, 0), LinkPredictor.REFUSED);
            }
        }
        CHECKS.due("branch", x.branch(), 1);
    }

    private static void newObjectHasNoMembers() {
        CHECKS.sentence("the ROOT alone is THERE, without MEMBERS");
        for (int build = 0; build < 2; build++) {
            LinkPredictor x = new LinkPredictor();
            x.write(build);
            CHECKS.due("not GONE", x.count(build, 1), 0);
            CHECKS.due("all", x.count(build, 2), 0);
            CHECKS.due("ABSTRACT", x.count(build, 5), 0);
            for (int m = 0; m <= 30; m++) {
                CHECKS.no("remake " + m, x.remake(m, 3, 0));
                CHECKS.no("remove " + m, x.remove(m));
            }
            for (int sign = 0; sign < 15; sign++) {
                x.forget();
                CHECKS.due("no FIELD", x.resolve(build, x.refer(Sorts.GET, 0, 0, sign)), Sorts.NO_FIELD);
                CHECKS.due("no STATIC FIELD", x.resolve(build, x.refer(Sorts.GET_STATIC, 0, 0, sign)), Sorts.NO_FIELD);
                CHECKS.due("no METHOD", x.resolve(build, x.refer(Sorts.VIRTUAL, 0, 0, sign)), Sorts.NO_METHOD);
            }
            CHECKS.due("the first MEMBER", x.member(0, false, 0, 3, 0), 0);
        }
    }

    private static void newObjectHasNoReferences() {
        CHECKS.sentence("without MEMBERS; no REFERENCES.");
        LinkPredictor x = new LinkPredictor();
        for (int i = 0; i <= 16; i++) {
            for (int build = 0; build < 2; build++) {
                CHECKS.due("resolve " + i, x.resolve(build, i), LinkPredictor.REFUSED);
                CHECKS.due("select " + i, x.select(build, i, 0), LinkPredictor.REFUSED);
            }
            CHECKS.due("compare " + i, x.compare(i), LinkPredictor.REFUSED);
            for (int what = 0; what < 4; what++) {
                CHECKS.due("receivers " + i, x.receivers(i, what), LinkPredictor.REFUSED);
            }
        }
        CHECKS.due("GOOD in OLD", x.count(0, 3), 0);
        CHECKS.due("GOOD in NEW", x.count(1, 3), 0);
        CHECKS.due("forget", x.forget(), 0);
        CHECKS.due("the first one", x.refer(Sorts.TYPE, 0, 0, 0), 0);
    }

    private static void objectsDoNotShare() {
        CHECKS.sentence("`LinkPredictor()`: The BUILD that is WRITTEN is OLD");
        Refusals fresh = new Refusals(CHECKS, Scenes::fresh);
        fresh.unchanged("calls on another object", x -> Scenes.rich().count(0, 0));
        fresh.unchanged("calls on a full one", x -> Scenes.full().count(1, 2));
        LinkPredictor rich = Scenes.rich();
        LinkPredictor full = Scenes.full();
        CHECKS.due("its own TYPES", rich.count(0, 0), 10);
        CHECKS.due("its own MEMBERS", full.count(0, 2), 30);
        CHECKS.due("its own REFERENCES", rich.forget(), 8);
        CHECKS.due("its own REFERENCES", full.forget(), 16);
    }

    private static void rootIsAsSaid() {
        CHECKS.sentence("TYPE 0, the ROOT, is always THERE: PUBLIC, PACKAGE 0, no SUPER, no FACES, its own HOST");
        LinkPredictor x = new LinkPredictor();
        for (int pack = 0; pack < 4; pack++) {
            x.type(pack + 1, 1, pack, 0, 0);
        }
        x.member(0, true, 0, Sorts.PACKAGE, 0);
        x.member(0, true, 1, Sorts.PUBLIC, 0);
        for (int pack = 0; pack < 4; pack++) {
            CHECKS.due("PUBLIC", x.resolve(0, x.refer(Sorts.TYPE, pack + 1, 0, 0)), 0);
            int due = pack == 0 ? Sorts.M : Sorts.BARRED + Sorts.M;
            CHECKS.due("PACKAGE 0", x.resolve(0, x.refer(Sorts.VIRTUAL, pack + 1, 0, 0)), due);
        }
        for (int u = 0; u < 12; u++) {
            CHECKS.due("no SUPER, no FACES", x.isUnder(0, 0, u) ? 1 : 0, u == 0 ? 1 : 0);
        }
        x.nest(1, 0);
        CHECKS.due("its own HOST", x.count(0, 6), 0b11);
        CHECKS.due("no INTERFACE", x.resolve(0, x.refer(Sorts.FACE, 0, 0, 1)), Sorts.CHANGED);
        int call = x.refer(Sorts.VIRTUAL, 0, 0, 1);
        CHECKS.due("not ABSTRACT", x.select(0, call, 0), Sorts.M + 1);
        x.type(5, 3, 0, 0, 0);
        CHECKS.due("not FINAL", x.load(0, 1), 1);
        CHECKS.due("SUPER of an INTERFACE", x.load(0, 5), 5);
    }

    private static void rootStaysSo() {
        CHECKS.sentence("its own HOST, and stays so.");
        Refusals rich = new Refusals(CHECKS, Scenes::rich);
        Refusals old = new Refusals(CHECKS, Scenes::richWithOldWritten);
        for (Refusals scene : new Refusals[] {rich, old}) {
            scene.due("type 0", x -> x.type(0, 2, 3, 5, 6) ? 1 : 0, 0);
            scene.due("type 0 as it is", x -> x.type(0, 1, 0, 0, 0) ? 1 : 0, 0);
            scene.due("nest 0 in 1", x -> x.nest(0, 1) ? 1 : 0, 0);
            scene.due("nest 0 in 0", x -> x.nest(0, 0) ? 1 : 0, 0);
            scene.due("drop 0", x -> x.drop(0) ? 1 : 0, 0);
        }
    }

    private static void everyType() {
        CHECKS.sentence("TYPE t (1 to 11) of the BUILD that is WRITTEN is THERE with these FLAGS");
        LinkPredictor x = new LinkPredictor();
        for (int t = 1; t <= 11; t++) {
            CHECKS.due("not THERE yet", x.load(0, t), Sorts.MISSING + t);
            CHECKS.yes("type " + t, x.type(t, 1, 0, 0, 0));
            CHECKS.due("load " + t, x.load(0, t), t);
            CHECKS.due("TYPES", x.count(0, 0), t + 1);
        }
        CHECKS.yes("again", x.type(11, 1, 0, 0, 0));
        CHECKS.due("no TYPE more", x.count(0, 0), 12);
    }

    private static void everyTypeOfBothBuilds() {
        CHECKS.sentence("There are two BUILDS, OLD (0) and NEW (1). In each of them TYPES are 0 to 11, THERE or not.");
        LinkPredictor x = new LinkPredictor();
        for (int t = 1; t <= 11; t++) {
            x.write(t % 2);
            x.type(t, 1, 0, 0, 0);
        }
        CHECKS.due("OLD", x.count(0, 0), 6);
        CHECKS.due("NEW", x.count(1, 0), 7);
        for (int t = 1; t <= 11; t++) {
            CHECKS.due("THERE in one, " + t, x.load(t % 2, t), t);
            CHECKS.due("not in the other, " + t, x.load(1 - t % 2, t), Sorts.MISSING + t);
        }
    }

    /** Every set of FLAGS is what its bits say, and nothing besides. */
    private static void everySetOfFlags() {
        CHECKS.sentence("FLAGS (1 PUBLIC, 2 INTERFACE, 4 ABSTRACT, 8 FINAL)");
        for (int flags = 0; flags <= 15; flags++) {
            LinkPredictor x = new LinkPredictor();
            boolean isPublic = (flags & 1) != 0;
            boolean isInterface = (flags & 2) != 0;
            x.member(0, true, 0, 3, 0);
            CHECKS.yes("flags " + flags, x.type(1, flags, 1, 0, 0));
            x.type(2, 1, 1, 1, 0);
            x.type(3, 1, 1, 0, 1 << 1);
            CHECKS.due("LOADED " + flags, x.load(0, 1), 1);
            CHECKS.due("as SUPER " + flags, x.load(0, 2), (flags & 10) != 0 ? Sorts.CHANGED + 2 : 2);
            CHECKS.due("as FACE " + flags, x.load(0, 3), isInterface ? 3 : Sorts.CHANGED + 3);
            CHECKS.due("reached from the ROOT " + flags, x.resolve(0, x.refer(Sorts.TYPE, 0, 1, 0)),
                    isPublic ? 1 : Sorts.BARRED + 1);
            CHECKS.due("VIRTUAL " + flags, x.resolve(0, x.refer(Sorts.VIRTUAL, 1, 1, 0)),
                    isInterface ? Sorts.CHANGED + 1 : Sorts.M);
            CHECKS.due("FACE " + flags, x.resolve(0, x.refer(Sorts.FACE, 1, 1, 0)),
                    isInterface ? Sorts.M : Sorts.CHANGED + 1);
            CHECKS.due("receiver " + flags, x.select(0, x.refer(Sorts.VIRTUAL, 0, 0, 0), 1),
                    (flags & 6) != 0 ? Sorts.UNFIT + 1 : Sorts.M);
            x.type(4, 1, 1, 0, 0);
            x.type(1, flags, 1, 4, 0);
            CHECKS.due("with a SUPER " + flags, x.load(0, 1), isInterface ? Sorts.CHANGED + 1 : 1);
        }
    }

    private static void everyPackage() {
        CHECKS.sentence("is THERE with these FLAGS (0 to 15), PACKAGE (0 to 3)");
        for (int p = 0; p <= 3; p++) {
            for (int q = 0; q <= 3; q++) {
                LinkPredictor x = new LinkPredictor();
                CHECKS.yes("pack " + p, x.type(1, 0, p, 0, 0));
                CHECKS.yes("pack " + q, x.type(2, 0, q, 0, 0));
                int due = p == q ? 2 : Sorts.BARRED + 2;
                CHECKS.due("2 from 1", x.resolve(0, x.refer(Sorts.TYPE, 1, 2, 0)), due);
                CHECKS.due("1 from the ROOT", x.resolve(0, x.refer(Sorts.TYPE, 0, 1, 0)),
                        p == 0 ? 1 : Sorts.BARRED + 1);
            }
        }
    }

    private static void everySuper() {
        CHECKS.sentence("SUPER (0 to 11, THERE or not, or itself)");
        LinkPredictor x = new LinkPredictor();
        for (int t : new int[] {1, 6, 11}) {
            for (int above = 0; above <= 11; above++) {
                CHECKS.yes("SUPER " + above, x.type(t, 1, 0, above, 0));
                int due = above == 0 ? t : above == t ? Sorts.CIRCULAR + t : Sorts.MISSING + above;
                CHECKS.due("load " + t + " with SUPER " + above, x.load(0, t), due);
            }
            x.drop(t);
        }
        x.type(11, 1, 0, 0, 0);
        x.type(1, 1, 0, 11, 0);
        CHECKS.yes("SUPER 11", x.isUnder(0, 1, 11));
    }

    private static void everyFace() {
        CHECKS.sentence("DIRECT FACES (0 to 4095, bit u for TYPE u)");
        LinkPredictor x = new LinkPredictor();
        for (int u = 0; u <= 11; u++) {
            CHECKS.yes("FACE " + u, x.type(6, 1, 0, 0, 1 << u));
            int due = u == 0 ? Sorts.CHANGED + 6 : u == 6 ? Sorts.CIRCULAR + 6 : Sorts.MISSING + u;
            CHECKS.due("load 6 with FACE " + u, x.load(0, 6), due);
        }
        CHECKS.yes("none", x.type(6, 1, 0, 0, 0));
        CHECKS.due("none", x.load(0, 6), 6);
        CHECKS.yes("all", x.type(6, 1, 0, 0, 4095));
        CHECKS.due("all", x.load(0, 6), Sorts.MISSING + 1);
        for (int u = 1; u <= 11; u++) {
            x.type(u, 3, 0, 0, 0);
        }
        x.type(6, 3, 0, 0, 4095);
        CHECKS.due("itself among all", x.load(0, 6), Sorts.CIRCULAR + 6);
        x.type(6, 3, 0, 0, 4095 - (1 << 6));
        CHECKS.due("the ROOT among all", x.load(0, 6), Sorts.CHANGED + 6);
        x.type(6, 3, 0, 0, 4095 - (1 << 6) - 1);
        CHECKS.due("all others", x.load(0, 6), 6);
        for (int u = 1; u <= 11; u++) {
            CHECKS.yes("6 is UNDER " + u, x.isUnder(0, 6, u));
        }
    }

    private static void hostIsItselfAtFirst() {
        CHECKS.sentence("and a HOST (a TYPE, itself at first).");
        LinkPredictor x = new LinkPredictor();
        for (int t = 1; t <= 11; t++) {
            x.type(t, 1, 0, 0, 0);
            x.member(t, false, 0, Sorts.PRIVATE, 0);
            CHECKS.due("each alone", x.count(0, 6), 0);
        }
        for (int d = 0; d <= 11; d++) {
            for (int r = 1; r <= 11; r++) {
                x.forget();
                int due = d == r ? Sorts.M + r - 1 : Sorts.BARRED + Sorts.M + r - 1;
                CHECKS.due("PRIVATE of " + r + " from " + d, x.resolve(0, x.refer(Sorts.GET, d, r, 0)), due);
            }
        }
    }

    private static void typeIsItsOwnHost() {
        CHECKS.sentence("and is its own HOST: true.");
        for (int t = 2; t <= 11; t++) {
            LinkPredictor x = new LinkPredictor();
            x.type(1, 1, 0, 0, 0);
            x.type(t, 1, 0, 0, 0);
            CHECKS.due("alone", x.count(0, 6), 0);
            x.nest(t, 1);
            CHECKS.due("in 1", x.count(0, 6), 1 << t | 1 << 1);
            CHECKS.yes("made anew", x.type(t, 1, 0, 0, 0));
            CHECKS.due("alone again", x.count(0, 6), 0);
            x.nest(1, t);
            CHECKS.due("it can be a HOST", x.count(0, 6), 1 << t | 1 << 1);
            x.nest(t, 1);
            x.drop(t);
            x.type(t, 1, 0, 0, 0);
            CHECKS.due("its own HOST after drop, too", x.count(0, 6), 1 << t | 1 << 1);
        }
    }

    private static void typeOfTheWrittenBuild() {
        CHECKS.sentence("TYPE t (1 to 11) of the BUILD that is WRITTEN is THERE");
        for (int build = 0; build < 2; build++) {
            LinkPredictor x = new LinkPredictor();
            x.write(build);
            x.type(1, 1, 0, 0, 0);
            CHECKS.due("WRITTEN", x.load(build, 1), 1);
            CHECKS.due("the other one", x.load(1 - build, 1), Sorts.MISSING + 1);
        }
    }

    private static void typeKeepsItsMembers() {
        CHECKS.sentence("If it was THERE it keeps its MEMBERS.");
        LinkPredictor x = new LinkPredictor();
        x.type(1, 1, 0, 0, 0);
        x.type(2, 1, 0, 0, 0);
        x.member(1, true, 0, 3, 0);
        x.member(2, true, 0, 3, 0);
        x.member(1, false, 14, 3, Sorts.STATIC);
        x.member(1, true, 1, 3, 0);
        x.remove(3);
        CHECKS.yes("as an INTERFACE", x.type(1, 3, 2, 0, 0));
        CHECKS.due("not GONE", x.count(0, 1), 3);
        CHECKS.due("the METHOD", x.resolve(0, x.refer(Sorts.FACE, 0, 1, 0)), Sorts.M);
        CHECKS.due("the FIELD", x.resolve(0, x.refer(Sorts.GET_STATIC, 0, 1, 14)), Sorts.M + 2);
        CHECKS.no("the GONE one stays GONE", x.remove(3));
        CHECKS.yes("with a SUPER that is not THERE", x.type(1, 1, 0, 9, 0));
        CHECKS.due("not GONE", x.count(0, 1), 3);
        x.drop(1);
        CHECKS.yes("after drop", x.type(1, 1, 0, 0, 0));
        CHECKS.due("it was not THERE", x.count(0, 1), 1);
        CHECKS.due("none", x.resolve(0, x.refer(Sorts.VIRTUAL, 0, 1, 0)), Sorts.NO_METHOD + 1);
    }

    private static void typeRefusesWrongNumbers() {
        CHECKS.sentence("False, changing nothing, if a number is not as said.");
        Refusals.Call type = (x, a) -> x.type(a[0], a[1], a[2], a[3], a[4]) ? 1 : 0;
        Range[] ranges = {Range.ORDINARY_TYPE, new Range(0, 15), new Range(0, 3), Range.TYPE, new Range(0, 4095)};
        // One TYPE that is THERE in most scenes, and one that is not.
        Refusals.everyWrongNumber(CHECKS, "type", type, 0, new int[] {3, 2, 3, 9, 1 << 2}, ranges);
        Refusals.everyWrongNumber(CHECKS, "type", type, 0, new int[] {10, 1, 0, 0, 0}, ranges);
        CHECKS.no("all wrong", Scenes.rich().type(-1, -1, -1, -1, -1));
    }

    private static void nestTakesEveryHost() {
        CHECKS.sentence("The HOST of TYPE t (1 to 11) of the BUILD that is WRITTEN is h (0 to 11, THERE or not): true");
        for (int t = 1; t <= 11; t++) {
            for (int h = 0; h <= 11; h++) {
                LinkPredictor x = new LinkPredictor();
                x.type(t, 1, 0, 0, 0);
                CHECKS.yes("nest " + t + " in " + h, x.nest(t, h));
                CHECKS.due("with the ROOT alone", x.count(0, 6), h == 0 ? 1 << t | 1 : 0);
                if (h != 0 && h != t) {
                    x.type(h, 1, 0, 0, 0);
                    CHECKS.due("h is THERE now", x.count(0, 6), 1 << t | 1 << h);
                    x.drop(h);
                    CHECKS.due("and no more", x.count(0, 6), 0);
                    x.type(h, 1, 0, 0, 0);
                    CHECKS.due("and again", x.count(0, 6), 1 << t | 1 << h);
                }
                CHECKS.yes("nest " + t + " in itself", x.nest(t, t));
                CHECKS.due("alone", x.count(0, 6), 0);
            }
        }
    }

    private static void nestOfTheWrittenBuild() {
        CHECKS.sentence("The HOST of TYPE t (1 to 11) of the BUILD that is WRITTEN");
        for (int build = 0; build < 2; build++) {
            LinkPredictor x = new LinkPredictor();
            x.type(1, 1, 0, 0, 0);
            x.branch();
            x.write(build);
            CHECKS.yes("nest", x.nest(1, 0));
            CHECKS.due("WRITTEN", x.count(build, 6), 0b11);
            CHECKS.due("the other one", x.count(1 - build, 6), 0);
        }
    }

    private static void nestOfWhatIsNotThere() {
        CHECKS.sentence("false if t is not THERE, or a number is not as said.");
        Refusals fresh = new Refusals(CHECKS, Scenes::fresh);
        Refusals rich = new Refusals(CHECKS, Scenes::rich);
        for (int t = 1; t <= 11; t++) {
            int number = t;
            fresh.due("nest " + t + " in the ROOT", x -> x.nest(number, 0) ? 1 : 0, 0);
            fresh.due("nest " + t + " in itself", x -> x.nest(number, number) ? 1 : 0, 0);
        }
        rich.due("never THERE", x -> x.nest(11, 0) ? 1 : 0, 0);
        rich.due("dropped in NEW, THERE in OLD", x -> x.nest(6, 0) ? 1 : 0, 0);
        LinkPredictor x = new LinkPredictor();
        x.nest(1, 0);
        x.type(1, 1, 0, 0, 0);
        CHECKS.due("what was refused does not count later", x.count(0, 6), 0);
    }

    private static void nestRefusesWrongNumbers() {
        CHECKS.sentence("false if t is not THERE, or a number is not as said.");
        Refusals.Call nest = (x, a) -> x.nest(a[0], a[1]) ? 1 : 0;
        Refusals.everyWrongNumber(CHECKS, "nest", nest, 0, new int[] {1, 0}, Range.ORDINARY_TYPE, Range.TYPE);
        Refusals.everyWrongNumber(CHECKS, "nest", nest, 0, new int[] {4, 4}, Range.ORDINARY_TYPE, Range.TYPE);
    }

    private static void dropOfEveryType() {
        CHECKS.sentence("TYPE t (1 to 11) of the BUILD that is WRITTEN is THERE no more");
        for (int t = 1; t <= 11; t++) {
            LinkPredictor x = new LinkPredictor();
            for (int u = 1; u <= 11; u++) {
                x.type(u, 1, 0, 0, 0);
            }
            x.branch();
            CHECKS.yes("drop " + t, x.drop(t));
            for (int u = 1; u <= 11; u++) {
                CHECKS.due("NEW " + u, x.load(1, u), u == t ? Sorts.MISSING + u : u);
                CHECKS.due("OLD " + u, x.load(0, u), u);
            }
            CHECKS.due("TYPES of NEW", x.count(1, 0), 11);
            x.write(0);
            CHECKS.yes("drop of OLD", x.drop(t));
            CHECKS.due("TYPES of OLD", x.count(0, 0), 11);
        }
    }

    private static void dropTakesMembersAlong() {
        CHECKS.sentence("is THERE no more, its MEMBERS being GONE: true");
        LinkPredictor x = new LinkPredictor();
        x.type(1, 1, 0, 0, 0);
        x.type(11, 1, 0, 0, 0);
        // 0 and 29, the first and the last number, are of TYPE 11.
        for (int m = 0; m < 30; m++) {
            x.member(m % 29 == 0 ? 11 : 1, m % 2 == 0, m / 2, 3, Sorts.ABSTRACT);
        }
        x.branch();
        CHECKS.yes("drop 11", x.drop(11));
        CHECKS.due("not GONE", x.count(1, 1), 28);
        CHECKS.due("numbers are kept", x.count(1, 2), 30);
        CHECKS.due("ABSTRACT METHODS", x.count(1, 5), 14);
        CHECKS.due("OLD", x.count(0, 1), 30);
        for (int m = 0; m < 30; m++) {
            CHECKS.due("remake " + m, x.remake(m, 3, 0) ? 1 : 0, m % 29 == 0 ? 0 : 1);
        }
        x.type(11, 1, 0, 0, 0);
        CHECKS.due("they do not come back", x.count(1, 1), 28);
        CHECKS.due("nor is there room", x.member(11, true, 0, 3, 0), LinkPredictor.FULL);
        CHECKS.yes("drop 1", x.drop(1));
        CHECKS.due("none is left", x.count(1, 1), 0);
    }

    private static void dropOfWhatIsNotThere() {
        CHECKS.sentence("false if it is not THERE.");
        Refusals fresh = new Refusals(CHECKS, Scenes::fresh);
        for (int t = 0; t <= 11; t++) {
            int number = t;
            fresh.due("drop " + t, x -> x.drop(number) ? 1 : 0, 0);
        }
        Refusals rich = new Refusals(CHECKS, Scenes::rich);
        rich.due("dropped in NEW, THERE in OLD", x -> x.drop(6) ? 1 : 0, 0);
        rich.due("never THERE", x -> x.drop(11) ? 1 : 0, 0);
        Refusals old = new Refusals(CHECKS, Scenes::richWithOldWritten);
        old.due("named as a SUPER, but not THERE", x -> x.drop(10) ? 1 : 0, 0);
        old.due("the ROOT", x -> x.drop(0) ? 1 : 0, 0);
        LinkPredictor x = Scenes.richWithOldWritten();
        CHECKS.yes("THERE with a fault", x.drop(7));
        CHECKS.no("not twice", x.drop(7));
    }

    private static void dropRefusesWrongNumbers() {
        CHECKS.sentence("TYPE t (1 to 11) of the BUILD that is WRITTEN is THERE no more");
        Refusals.everyWrongNumber(CHECKS, "drop", (x, a) -> x.drop(a[0]) ? 1 : 0, 0, new int[] {1},
                Range.ORDINARY_TYPE);
    }
}
