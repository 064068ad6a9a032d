/** The edges of promises 12 and 17, sentence by sentence: load, isUnder, and what LOADING and UNDER are. */
public final class LoadBoundsTest {
    private static final Checks CHECKS = new Checks("LoadBoundsTest");

    public static void main(String[] args) {
        loadOfEveryType();
        loadRefusesWrongNumbers();
        missing();
        circularBySupers();
        circularByFaces();
        circularSeenFromOutside();
        superThenFacesByTheirNumbers();
        whatComesOfTheseComesOfT();
        changedBySuper();
        changedByFace();
        changedInterface();
        changedComesLast();
        whatNeedsLoading();
        aboveGoesOnToTheRoot();
        facesOfAllAbove();
        facesOfFaces();
        underEveryFace();
        isUnderOfBothBuilds();
        isUnderOfLoadedOnes();
        isUnderOfWrongNumbers();
        CHECKS.end();
    }

    private static void loadOfEveryType() {
        CHECKS.sentence("The VERDICT of LOADING TYPE t (0 to 11) in a BUILD (0, 1); GOOD with t if all is well.");
        for (int build = 0; build < 2; build++) {
            LinkPredictor x = new LinkPredictor();
            x.write(build);
            for (int t = 1; t <= 11; t++) {
                x.type(t, 1, 0, t - 1, 0);
            }
            for (int t = 0; t <= 11; t++) {
                CHECKS.due("load " + t, x.load(build, t), t);
                CHECKS.due("not of the other BUILD", x.load(1 - build, t), t == 0 ? 0 : Sorts.MISSING + t);
            }
        }
    }

    private static void loadRefusesWrongNumbers() {
        CHECKS.sentence("GOOD with t if all is well. REFUSED if a number is not as said.");
        Refusals.everyWrongQuestion(CHECKS, "load", (x, a) -> x.load(a[0], a[1]), LinkPredictor.REFUSED,
                new int[] {0, 0}, Range.BUILD, Range.TYPE);
        Refusals.everyWrongQuestion(CHECKS, "load", (x, a) -> x.load(a[0], a[1]), LinkPredictor.REFUSED,
                new int[] {1, 11}, Range.BUILD, Range.TYPE);
    }

    private static void missing() {
        CHECKS.sentence("MISSING t if it is not THERE.");
        for (int t = 1; t <= 11; t++) {
            LinkPredictor x = new LinkPredictor();
            int below = t == 1 ? 2 : 1;
            int deeper = t == 11 ? 3 : 11;
            CHECKS.due("itself", x.load(0, t), Sorts.MISSING + t);
            x.type(below, 1, 0, t, 0);
            CHECKS.due("its SUPER", x.load(0, below), Sorts.MISSING + t);
            x.type(below, 3, 0, 0, 1 << t);
            CHECKS.due("its FACE", x.load(0, below), Sorts.MISSING + t);
            x.type(deeper, 1, 0, 0, 1 << below);
            CHECKS.due("the FACE of its FACE", x.load(0, deeper), Sorts.MISSING + t);
            x.type(t, 3, 0, 0, 0);
            CHECKS.due("THERE now", x.load(0, deeper), deeper);
            x.drop(t);
            CHECKS.due("dropped", x.load(0, deeper), Sorts.MISSING + t);
        }
    }

    private static void circularBySupers() {
        CHECKS.sentence("If t is being LOADED already: CIRCULAR t.");
        for (int length = 1; length <= 11; length++) {
            LinkPredictor x = new LinkPredictor();
            for (int t = 1; t <= length; t++) {
                x.type(t, 1, 0, t % length + 1, 0);
            }
            for (int t = 1; t <= length; t++) {
                CHECKS.due("ring of " + length + ", load " + t, x.load(0, t), Sorts.CIRCULAR + t);
            }
            x.type(1, 1, 0, 0, 0);
            for (int t = 1; t <= length; t++) {
                CHECKS.due("no ring any more, load " + t, x.load(0, t), t);
            }
        }
    }

    private static void circularByFaces() {
        CHECKS.sentence("If t is being LOADED already: CIRCULAR t.");
        for (int length = 1; length <= 11; length++) {
            LinkPredictor x = new LinkPredictor();
            for (int t = 1; t <= length; t++) {
                x.type(t, 3, 0, 0, 1 << t % length + 1);
            }
            for (int t = 1; t <= length; t++) {
                CHECKS.due("ring of " + length + ", load " + t, x.load(0, t), Sorts.CIRCULAR + t);
            }
        }
        LinkPredictor x = new LinkPredictor();
        x.type(1, 3, 0, 0, 0);
        x.type(2, 3, 0, 0, 1 << 1);
        x.type(3, 3, 0, 0, 1 << 1);
        x.type(4, 1, 0, 0, 1 << 1 | 1 << 2 | 1 << 3);
        CHECKS.due("LOADED twice one after the other is no ring", x.load(0, 4), 4);
    }

    private static void circularSeenFromOutside() {
        CHECKS.sentence("If t is being LOADED already: CIRCULAR t.");
        LinkPredictor x = new LinkPredictor();
        x.type(3, 1, 0, 7, 0);
        x.type(7, 1, 0, 9, 0);
        x.type(9, 1, 0, 7, 0);
        CHECKS.due("the first that comes again", x.load(0, 3), Sorts.CIRCULAR + 7);
        x.type(3, 1, 0, 9, 0);
        CHECKS.due("seen from the other side", x.load(0, 3), Sorts.CIRCULAR + 9);
        x.type(3, 1, 0, 0, 1 << 7 | 1 << 9);
        CHECKS.due("by FACES", x.load(0, 3), Sorts.CIRCULAR + 7);
        x.type(11, 1, 0, 3, 0);
        CHECKS.due("from farther away", x.load(0, 11), Sorts.CIRCULAR + 7);
    }

    private static void superThenFacesByTheirNumbers() {
        CHECKS.sentence("Else its SUPER is LOADED, if it has one, then its DIRECT FACES by their numbers");
        for (int u = 1; u <= 10; u++) {
            for (int v = u + 1; v <= 10; v++) {
                LinkPredictor x = new LinkPredictor();
                x.type(11, 1, 0, v, 1 << u);
                CHECKS.due("SUPER before FACE", x.load(0, 11), Sorts.MISSING + v);
                x.type(11, 1, 0, u, 1 << v);
                CHECKS.due("SUPER before FACE", x.load(0, 11), Sorts.MISSING + u);
                x.type(11, 1, 0, 0, 1 << u | 1 << v);
                CHECKS.due("the lower FACE", x.load(0, 11), Sorts.MISSING + u);
                x.type(u, 3, 0, 0, 0);
                CHECKS.due("then the other", x.load(0, 11), Sorts.MISSING + v);
            }
        }
        CHECKS.due("the ROOT has none", new LinkPredictor().load(0, 0), 0);
    }

    private static void whatComesOfTheseComesOfT() {
        CHECKS.sentence("what comes of these comes of t.");
        LinkPredictor x = new LinkPredictor();
        x.type(1, 1, 0, 11, 0);
        x.type(2, 1, 0, 1, 0);
        CHECKS.due("MISSING", x.load(0, 2), Sorts.MISSING + 11);
        x.type(1, 1, 0, 1, 0);
        CHECKS.due("CIRCULAR", x.load(0, 2), Sorts.CIRCULAR + 1);
        x.type(1, 3, 0, 3, 0);
        x.type(3, 1, 0, 0, 0);
        CHECKS.due("CHANGED", x.load(0, 2), Sorts.CHANGED + 1);
        x.type(2, 1, 0, 0, 1 << 1);
        CHECKS.due("CHANGED, of a FACE", x.load(0, 2), Sorts.CHANGED + 1);
        x.type(1, 3, 0, 0, 0);
        CHECKS.due("all is well", x.load(0, 2), 2);
    }

    private static void changedBySuper() {
        CHECKS.sentence("Then CHANGED t, if the SUPER is an INTERFACE or FINAL");
        for (int s = 1; s <= 11; s++) {
            int t = s == 5 ? 6 : 5;
            for (int flags = 0; flags <= 15; flags++) {
                LinkPredictor x = new LinkPredictor();
                x.type(s, flags, 3, 0, 0);
                x.type(t, 0, 0, s, 0);
                CHECKS.due("SUPER " + s + " with " + flags, x.load(0, t), (flags & 10) == 0 ? t : Sorts.CHANGED + t);
            }
        }
    }

    private static void changedByFace() {
        CHECKS.sentence("or a DIRECT FACE is none");
        for (int u = 1; u <= 11; u++) {
            int t = u == 5 ? 6 : 5;
            for (int flags = 0; flags <= 15; flags++) {
                LinkPredictor x = new LinkPredictor();
                for (int f = 1; f <= 11; f++) {
                    x.type(f, f == u ? flags : 3, 3, 0, 0);
                }
                int due = (flags & 2) != 0 ? t : Sorts.CHANGED + t;
                x.type(t, 0, 0, 0, 4094 - (1 << t));
                CHECKS.due("a class, FACE " + u + " with " + flags, x.load(0, t), due);
                x.type(t, 2, 0, 0, 4094 - (1 << t));
                CHECKS.due("an INTERFACE, FACE " + u + " with " + flags, x.load(0, t), due);
            }
        }
        LinkPredictor x = new LinkPredictor();
        x.type(1, 1, 0, 0, 1);
        CHECKS.due("the ROOT is none", x.load(0, 1), Sorts.CHANGED + 1);
        x.type(1, 3, 0, 0, 1);
        CHECKS.due("nor for an INTERFACE", x.load(0, 1), Sorts.CHANGED + 1);
    }

    private static void changedInterface() {
        CHECKS.sentence("or t is an INTERFACE and its SUPER is not the ROOT.");
        for (int s = 0; s <= 11; s++) {
            int t = s == 5 ? 6 : 5;
            for (int flags = 0; flags <= 15; flags++) {
                LinkPredictor x = new LinkPredictor();
                if (s != 0) {
                    x.type(s, 1, 0, 0, 0);
                }
                x.type(t, flags, 0, s, 0);
                int due = (flags & 2) != 0 && s != 0 ? Sorts.CHANGED + t : t;
                CHECKS.due("flags " + flags + ", SUPER " + s, x.load(0, t), due);
            }
        }
    }

    private static void changedComesLast() {
        CHECKS.sentence("Then CHANGED t, if the SUPER is an INTERFACE or FINAL, or a DIRECT FACE is none");
        LinkPredictor x = new LinkPredictor();
        x.type(1, 3, 0, 0, 0);
        x.type(2, 1, 0, 1, 1 << 11);
        CHECKS.due("MISSING before CHANGED", x.load(0, 2), Sorts.MISSING + 11);
        x.type(11, 3, 0, 0, 1 << 2);
        CHECKS.due("CIRCULAR before CHANGED", x.load(0, 2), Sorts.CIRCULAR + 2);
        x.type(11, 3, 0, 0, 1);
        CHECKS.due("CHANGED 11 before CHANGED 2", x.load(0, 2), Sorts.CHANGED + 11);
        x.type(11, 3, 0, 0, 0);
        CHECKS.due("then CHANGED 2", x.load(0, 2), Sorts.CHANGED + 2);
    }

    private static void whatNeedsLoading() {
        CHECKS.sentence("what comes of LOADING comes of what needs it.");
        for (int kind = 0; kind <= 8; kind++) {
            LinkPredictor x = new LinkPredictor();
            x.type(1, 0, 3, 1, 0);
            x.type(2, 0, 3, 0, 1);
            x.type(3, 0, 3, 11, 0);
            int[] due = {0, Sorts.CIRCULAR + 1, Sorts.CHANGED + 2, Sorts.MISSING + 11};
            for (int t = 1; t <= 3; t++) {
                CHECKS.due("d, kind " + kind, x.resolve(0, x.refer(kind, t, 0, 0)), due[t]);
                CHECKS.due("r, kind " + kind, x.resolve(0, x.refer(kind, 0, t, 0)), due[t]);
            }
            CHECKS.due("d before r", x.resolve(0, x.refer(kind, 3, 1, 0)), due[3]);
            CHECKS.due("d before r", x.resolve(0, x.refer(kind, 1, 3, 0)), due[1]);
        }
    }

    private static void aboveGoesOnToTheRoot() {
        CHECKS.sentence("The ABOVE of a TYPE are itself and its SUPER, the SUPER of that, and so on, in this order.");
        LinkPredictor x = new LinkPredictor();
        for (int t = 1; t <= 11; t++) {
            x.type(t, 1, 0, t - 1, 0);
        }
        for (int t = 0; t <= 11; t++) {
            for (int u = 0; u <= 11; u++) {
                CHECKS.due(t + " under " + u, x.isUnder(0, t, u) ? 1 : 0, t >= u ? 1 : 0);
            }
        }
        LinkPredictor y = new LinkPredictor();
        for (int t = 1; t <= 11; t++) {
            y.type(t, 1, 0, (t + 1) % 12, 0);
        }
        for (int t = 1; t <= 11; t++) {
            for (int u = 0; u <= 11; u++) {
                CHECKS.due(t + " under " + u, y.isUnder(0, t, u) ? 1 : 0, u == 0 || t <= u ? 1 : 0);
            }
        }
    }

    private static void facesOfAllAbove() {
        CHECKS.sentence("Its FACES are all DIRECT FACES of its ABOVE, and all FACES of these.");
        LinkPredictor x = new LinkPredictor();
        for (int t = 1; t <= 5; t++) {
            x.type(t, 3, 0, 0, 0);
            x.type(t + 5, 1, 0, t == 1 ? 0 : t + 4, 1 << t);
        }
        for (int t = 6; t <= 10; t++) {
            for (int u = 1; u <= 5; u++) {
                CHECKS.due(t + " under " + u, x.isUnder(0, t, u) ? 1 : 0, u <= t - 5 ? 1 : 0);
                CHECKS.no(u + " under " + t, x.isUnder(0, u, t));
            }
        }
    }

    private static void facesOfFaces() {
        CHECKS.sentence("Its FACES are all DIRECT FACES of its ABOVE, and all FACES of these.");
        LinkPredictor x = new LinkPredictor();
        for (int t = 1; t <= 10; t++) {
            x.type(t, 3, 0, 0, 1 << t + 1);
        }
        x.type(11, 3, 0, 0, 0);
        for (int t = 1; t <= 11; t++) {
            for (int u = 1; u <= 11; u++) {
                CHECKS.due(t + " under " + u, x.isUnder(0, t, u) ? 1 : 0, t <= u ? 1 : 0);
            }
            CHECKS.yes("under the ROOT", x.isUnder(0, t, 0));
        }
    }

    private static void underEveryFace() {
        CHECKS.sentence("t is UNDER u if u is one of its ABOVE or its FACES.");
        for (int u = 1; u <= 11; u++) {
            for (int t = 1; t <= 11; t++) {
                if (t != u) {
                    LinkPredictor x = new LinkPredictor();
                    x.type(u, 3, 0, 0, 0);
                    x.type(t, 1, 0, 0, 1 << u);
                    CHECKS.yes(t + " under " + u, x.isUnder(0, t, u));
                    CHECKS.yes("itself", x.isUnder(0, t, t));
                    CHECKS.no("not the other way", x.isUnder(0, u, t));
                    x.type(t, 1, 0, 0, 0);
                    CHECKS.no("no more", x.isUnder(0, t, u));
                }
            }
        }
    }

    private static void isUnderOfBothBuilds() {
        CHECKS.sentence("Of a BUILD: whether TYPE t is UNDER TYPE u");
        for (int build = 0; build < 2; build++) {
            LinkPredictor x = new LinkPredictor();
            x.write(build);
            x.type(1, 1, 0, 0, 0);
            x.type(11, 1, 0, 1, 0);
            CHECKS.yes("this one", x.isUnder(build, 11, 1));
            CHECKS.no("the other one", x.isUnder(1 - build, 11, 1));
            CHECKS.yes("the ROOT of the other one", x.isUnder(1 - build, 0, 0));
        }
    }

    private static void isUnderOfLoadedOnes() {
        CHECKS.sentence("whether TYPE t is UNDER TYPE u, both LOADED without fault.");
        LinkPredictor x = new LinkPredictor();
        x.type(1, 1, 0, 0, 0);
        x.type(2, 1, 0, 1, 0);
        x.type(3, 1, 0, 2, 0);
        CHECKS.yes("all is well", x.isUnder(0, 3, 1));
        x.type(2, 1, 0, 1, 1 << 11);
        for (int t = 0; t <= 3; t++) {
            for (int u = 0; u <= 3; u++) {
                boolean due = t <= 1 && u <= t;
                CHECKS.due(t + " under " + u, x.isUnder(0, t, u) ? 1 : 0, due ? 1 : 0);
            }
        }
        x.type(2, 1, 0, 2, 0);
        CHECKS.no("CIRCULAR, itself", x.isUnder(0, 2, 2));
        CHECKS.no("CIRCULAR, the ROOT", x.isUnder(0, 2, 0));
        x.type(2, 1, 0, 1, 1);
        CHECKS.no("CHANGED, its SUPER", x.isUnder(0, 2, 1));
        CHECKS.no("not THERE, itself", x.isUnder(0, 11, 11));
        CHECKS.no("not THERE, the ROOT", x.isUnder(0, 11, 0));
    }

    private static void isUnderOfWrongNumbers() {
        CHECKS.sentence("False also for numbers that are not as said.");
        Refusals.Call isUnder = (x, a) -> x.isUnder(a[0], a[1], a[2]) ? 1 : 0;
        Range[] ranges = {Range.BUILD, Range.TYPE, Range.TYPE};
        Refusals.everyWrongQuestion(CHECKS, "isUnder", isUnder, 0, new int[] {0, 0, 0}, ranges);
        Refusals.everyWrongQuestion(CHECKS, "isUnder", isUnder, 0, new int[] {1, 3, 1}, ranges);
        for (int number : Range.TYPE.outside()) {
            CHECKS.no("both wrong", Scenes.rich().isUnder(0, number, number));
        }
    }
}
