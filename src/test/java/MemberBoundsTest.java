/** The edges of promises 5 to 7, sentence by sentence: member, remake, remove. */
public final class MemberBoundsTest {
    private static final Checks CHECKS = new Checks("MemberBoundsTest");

    public static void main(String[] args) {
        numbersOfOneType();
        memberOfEveryType();
        memberOfTheWrittenBuild();
        everySignIsItsOwn();
        everyNameAndShape();
        everyAccess();
        everySetOfFlags();
        memberRefusesWrongNumbers();
        memberOfWhatIsNotThere();
        noTwoOfTheSame();
        memberThatIsThereAlready();
        memberIsFullAtThirty();
        goneOnesTakeRoom();
        refusedBeforeFull();
        remakeOfEveryMember();
        remakeChangesNothingElse();
        remakeRefusesWrongNumbers();
        remakeOfGone();
        remakeOfNoneSuch();
        removeOfEveryMember();
        removeOfGone();
        removeOfNoneSuch();
        goneIsNoMemberAnyMore();
        CHECKS.end();
    }

    private static int told(LinkPredictor x, int build, int kind, int d, int r, int sign) {
        x.forget();
        return x.resolve(build, x.refer(kind, d, r, sign));
    }

    private static void numbersOfOneType() {
        CHECKS.sentence("MEMBERS of a BUILD are numbered 0, 1, .., at most 30");
        LinkPredictor x = new LinkPredictor();
        for (int m = 0; m < 30; m++) {
            CHECKS.due("member", x.member(0, m % 2 == 0, m / 2, 3, 0), m);
            CHECKS.due("all", x.count(0, 2), m + 1);
            CHECKS.due("not GONE", x.count(0, 1), m + 1);
        }
    }

    private static void memberOfEveryType() {
        CHECKS.sentence("A MEMBER of TYPE t (0 to 11) of the BUILD that is WRITTEN");
        LinkPredictor x = new LinkPredictor();
        for (int t = 1; t <= 11; t++) {
            x.type(t, 1, 0, 0, 0);
        }
        for (int t = 11; t >= 0; t--) {
            CHECKS.due("member of " + t, x.member(t, true, 5, 3, 0), 11 - t);
        }
        for (int t = 0; t <= 11; t++) {
            CHECKS.due("that of " + t, told(x, 0, Sorts.VIRTUAL, 0, t, 5), Sorts.M + 11 - t);
        }
    }

    private static void memberOfTheWrittenBuild() {
        CHECKS.sentence("of the BUILD that is WRITTEN: a METHOD or FIELD of NAME and SHAPE");
        for (int build = 0; build < 2; build++) {
            LinkPredictor x = new LinkPredictor();
            x.write(build);
            CHECKS.due("member", x.member(0, true, 0, 3, 0), 0);
            CHECKS.due("WRITTEN", x.count(build, 2), 1);
            CHECKS.due("the other one", x.count(1 - build, 2), 0);
            x.write(1 - build);
            CHECKS.due("its own numbers", x.member(0, true, 0, 3, 0), 0);
        }
    }

    private static void everySignIsItsOwn() {
        CHECKS.sentence("NAME and SHAPE by sign = 3 * NAME + SHAPE (0 to 14)");
        for (int sign = 0; sign <= 14; sign++) {
            LinkPredictor x = new LinkPredictor();
            CHECKS.due("METHOD", x.member(0, true, sign, 3, 0), 0);
            for (int other = 0; other <= 14; other++) {
                int method = told(x, 0, Sorts.VIRTUAL, 0, 0, other);
                CHECKS.due("call " + other + " of " + sign, method, other == sign ? Sorts.M : Sorts.NO_METHOD);
                CHECKS.due("no FIELD " + other, told(x, 0, Sorts.GET, 0, 0, other), Sorts.NO_FIELD);
            }
            CHECKS.due("FIELD", x.member(0, false, sign, 3, 0), 1);
            for (int other = 0; other <= 14; other++) {
                int field = told(x, 0, Sorts.GET, 0, 0, other);
                CHECKS.due("get " + other + " of " + sign, field, other == sign ? Sorts.M + 1 : Sorts.NO_FIELD);
            }
        }
    }

    private static void everyNameAndShape() {
        CHECKS.sentence("one is of a TYPE, and a FIELD or a METHOD, with a NAME (0 to 4), a SHAPE (0 to 2)");
        LinkPredictor x = new LinkPredictor();
        for (int name = 0; name <= 4; name++) {
            for (int shape = 0; shape <= 2; shape++) {
                int sign = 3 * name + shape;
                CHECKS.due("METHOD", x.member(0, true, sign, 3, 0), 2 * sign);
                CHECKS.due("FIELD", x.member(0, false, sign, 3, 0), 2 * sign + 1);
                CHECKS.due("the METHOD", told(x, 0, Sorts.VIRTUAL, 0, 0, sign), Sorts.M + 2 * sign);
                CHECKS.due("the FIELD", told(x, 0, Sorts.GET, 0, 0, sign), Sorts.M + 2 * sign + 1);
            }
        }
    }

    /** 1 has the MEMBER; from itself, its PACKAGE, below it in another PACKAGE, and elsewhere. */
    private static void everyAccess() {
        CHECKS.sentence("an ACCESS (0 PRIVATE, 1 PACKAGE, 2 PROTECTED, 3 PUBLIC)");
        membersWithEveryAccess();
        CHECKS.sentence("with this ACCESS (0 to 3) and these FLAGS (0 to 7): its number.");
        membersWithEveryAccess();
    }

    private static void membersWithEveryAccess() {
        int[] mostOpen = {1, 2, 3, 4};
        for (int access = 0; access <= 3; access++) {
            for (boolean method : new boolean[] {false, true}) {
                LinkPredictor x = new LinkPredictor();
                x.type(1, 1, 1, 0, 0);
                x.type(2, 1, 1, 0, 0);
                x.type(3, 1, 2, 1, 0);
                x.type(4, 1, 3, 0, 0);
                CHECKS.due("access " + access, x.member(1, method, 7, access, 0), 0);
                for (int d = 1; d <= 4; d++) {
                    int due = d <= mostOpen[access] ? Sorts.M : Sorts.BARRED + Sorts.M;
                    int kind = method ? Sorts.VIRTUAL : Sorts.GET;
                    CHECKS.due("access " + access + " from " + d, told(x, 0, kind, d, 1, 7), due);
                }
            }
        }
    }

    private static void everySetOfFlags() {
        CHECKS.sentence("FLAGS (1 STATIC, 2 ABSTRACT, 4 FINAL)");
        for (int flags = 0; flags <= 7; flags++) {
            LinkPredictor x = new LinkPredictor();
            x.type(1, 1, 0, 0, 0);
            x.type(2, 1, 0, 1, 0);
            boolean isStatic = (flags & 1) != 0;
            boolean isAbstract = (flags & 2) != 0;
            boolean isFinal = (flags & 4) != 0;
            CHECKS.due("FIELD " + flags, x.member(1, false, 0, 3, flags), 0);
            CHECKS.due("METHOD " + flags, x.member(1, true, 0, 3, flags), 1);
            int field = Sorts.M;
            int method = Sorts.M + 1;
            CHECKS.due("GET", told(x, 0, Sorts.GET, 2, 1, 0), isStatic ? Sorts.CHANGED + field : field);
            CHECKS.due("GET STATIC", told(x, 0, Sorts.GET_STATIC, 2, 1, 0), isStatic ? field : Sorts.CHANGED + field);
            int put = isFinal ? Sorts.BARRED + field : field;
            CHECKS.due("PUT", told(x, 0, Sorts.PUT, 2, 1, 0), isStatic ? Sorts.CHANGED + field : put);
            CHECKS.due("PUT STATIC", told(x, 0, Sorts.PUT_STATIC, 2, 1, 0), isStatic ? put : Sorts.CHANGED + field);
            CHECKS.due("VIRTUAL", told(x, 0, Sorts.VIRTUAL, 2, 1, 0), isStatic ? Sorts.CHANGED + method : method);
            CHECKS.due("STATIC", told(x, 0, Sorts.CALL_STATIC, 2, 1, 0), isStatic ? method : Sorts.CHANGED + method);
            int special = isAbstract ? Sorts.CUT + method : method;
            CHECKS.due("SPECIAL", told(x, 0, Sorts.SPECIAL, 2, 1, 0), isStatic ? Sorts.CHANGED + method : special);
            CHECKS.due("ABSTRACT METHODS", x.count(0, 5), isAbstract ? 1 : 0);
        }
    }

    private static void memberRefusesWrongNumbers() {
        CHECKS.sentence("REFUSED if a number is not as said, t is not THERE, or has one of this kind and sign");
        Range[] ranges = {Range.TYPE, Range.SIGN, Range.ACCESS, Range.MEMBER_FLAGS};
        int[] good = {0, 12, 3, 0};
        Refusals.everyWrongNumber(CHECKS, "member, METHOD", (x, a) -> x.member(a[0], true, a[1], a[2], a[3]),
                LinkPredictor.REFUSED, good, ranges);
        Refusals.everyWrongNumber(CHECKS, "member, FIELD", (x, a) -> x.member(a[0], false, a[1], a[2], a[3]),
                LinkPredictor.REFUSED, good, ranges);
    }

    private static void memberOfWhatIsNotThere() {
        CHECKS.sentence("REFUSED if a number is not as said, t is not THERE");
        Refusals fresh = new Refusals(CHECKS, Scenes::fresh);
        for (int t = 1; t <= 11; t++) {
            int number = t;
            fresh.due("member of " + t, x -> x.member(number, true, 0, 3, 0), LinkPredictor.REFUSED);
        }
        Refusals rich = new Refusals(CHECKS, Scenes::rich);
        rich.due("dropped in NEW, THERE in OLD", x -> x.member(6, false, 0, 3, 0), LinkPredictor.REFUSED);
        CHECKS.due("THERE with a fault", Scenes.rich().member(7, true, 0, 3, 0), 11);
        LinkPredictor x = new LinkPredictor();
        x.member(1, true, 0, 3, 0);
        x.type(1, 1, 0, 0, 0);
        CHECKS.due("what was refused does not come later", x.member(1, true, 0, 3, 0), 0);
    }

    private static void noTwoOfTheSame() {
        CHECKS.sentence("No TYPE has two MEMBERS of the same kind, NAME and SHAPE.");
        LinkPredictor x = new LinkPredictor();
        x.type(11, 1, 0, 0, 0);
        for (int m = 0; m < 29; m++) {
            CHECKS.due("one", x.member(11, m >= 15, m % 15, 3, 0), m);
            CHECKS.due("no second", x.member(11, m >= 15, m % 15, m % 4, m % 8), LinkPredictor.REFUSED);
        }
        x.type(11, 3, 2, 0, 0);
        CHECKS.due("not when it is made anew", x.member(11, false, 0, 3, 0), LinkPredictor.REFUSED);
        x.remake(0, 0, 7);
        CHECKS.due("nor remade", x.member(11, false, 0, 3, 0), LinkPredictor.REFUSED);
        x.branch();
        CHECKS.due("nor in NEW", x.member(11, false, 0, 3, 0), LinkPredictor.REFUSED);
        CHECKS.due("the ROOT has none", x.member(0, false, 0, 3, 0), 29);
    }

    private static void memberThatIsThereAlready() {
        CHECKS.sentence("or has one of this kind and sign; FULL if there are 30.");
        Refusals rich = new Refusals(CHECKS, Scenes::rich);
        for (int access = 0; access <= 3; access++) {
            int number = access;
            for (int flags = 0; flags <= 7; flags++) {
                int set = flags;
                rich.due("METHOD", x -> x.member(3, true, 0, number, set), LinkPredictor.REFUSED);
                rich.due("FIELD", x -> x.member(0, false, 1, number, set), LinkPredictor.REFUSED);
            }
        }
        CHECKS.due("the other kind", Scenes.rich().member(0, true, 1, 3, 0), 11);
        CHECKS.due("the next sign", Scenes.rich().member(0, false, 2, 3, 0), 11);
        CHECKS.due("the sign before", Scenes.rich().member(0, false, 0, 3, 0), 11);
        CHECKS.due("its SUPER has one", Scenes.rich().member(9, false, 1, 3, 0), 11);
        CHECKS.due("the one it had is GONE", Scenes.rich().member(0, true, 14, 3, 0), 11);
        CHECKS.due("GONE in NEW alone", Scenes.rich().member(2, true, 1, 3, 0), 11);
        CHECKS.due("not GONE in OLD", Scenes.richWithOldWritten().member(2, true, 1, 3, 0), LinkPredictor.REFUSED);
    }

    private static void memberIsFullAtThirty() {
        CHECKS.sentence("has one of this kind and sign; FULL if there are 30.");
        LinkPredictor x = new LinkPredictor();
        for (int t = 1; t <= 11; t++) {
            x.type(t, 1, 0, 0, 0);
        }
        for (int m = 0; m < 29; m++) {
            x.member(m % 12, m < 15, m / 12, 3, 0);
        }
        CHECKS.due("there are 29", x.count(0, 2), 29);
        CHECKS.due("the 30th", x.member(11, false, 14, 3, 0), 29);
        CHECKS.due("the 31st", x.member(11, false, 13, 3, 0), LinkPredictor.FULL);
        CHECKS.due("still 30", x.count(0, 2), 30);
        CHECKS.due("the last one is told", told(x, 0, Sorts.GET, 0, 11, 14), Sorts.M + 29);
        CHECKS.due("the 31st is not", told(x, 0, Sorts.GET, 0, 11, 13), Sorts.NO_FIELD + 11);
        CHECKS.due("OLD is full, NEW is not", memberOfNew(x), 0);
        Refusals full = new Refusals(CHECKS, Scenes::full);
        for (int sign = 0; sign <= 14; sign++) {
            int number = sign;
            full.due("METHOD " + sign, y -> y.member(1, true, number, 3, 0), LinkPredictor.FULL);
            full.due("FIELD " + sign, y -> y.member(1, false, number, 0, 7), LinkPredictor.FULL);
        }
    }

    private static int memberOfNew(LinkPredictor x) {
        x.write(1);
        return x.member(0, true, 0, 3, 0);
    }

    private static void goneOnesTakeRoom() {
        CHECKS.sentence("it may be GONE (then it is no MEMBER of its TYPE any more, keeping its number)");
        LinkPredictor x = Scenes.full();
        for (int m = 0; m < 30; m++) {
            x.remove(m);
        }
        CHECKS.due("all GONE", x.count(1, 1), 0);
        CHECKS.due("all numbers kept", x.count(1, 2), 30);
        CHECKS.due("no room", x.member(0, true, 0, 3, 0), LinkPredictor.FULL);
        x.drop(1);
        x.type(1, 1, 0, 0, 0);
        CHECKS.due("nor after drop", x.member(1, true, 0, 3, 0), LinkPredictor.FULL);
        x.branch();
        CHECKS.due("nor after branch", x.member(1, true, 0, 3, 0), LinkPredictor.FULL);
    }

    private static void refusedBeforeFull() {
        CHECKS.sentence("REFUSED if a number is not as said, t is not THERE, or has one of this kind and sign; FULL");
        Refusals full = new Refusals(CHECKS, Scenes::full);
        full.due("has one", x -> x.member(0, true, 0, 3, 0), LinkPredictor.REFUSED);
        full.due("has one", x -> x.member(0, false, 0, 0, 7), LinkPredictor.REFUSED);
        full.due("not THERE", x -> x.member(2, true, 0, 3, 0), LinkPredictor.REFUSED);
        full.due("t", x -> x.member(12, true, 0, 3, 0), LinkPredictor.REFUSED);
        full.due("sign", x -> x.member(1, true, 15, 3, 0), LinkPredictor.REFUSED);
        full.due("access", x -> x.member(1, true, 0, 4, 0), LinkPredictor.REFUSED);
        full.due("flags", x -> x.member(1, true, 0, 3, 8), LinkPredictor.REFUSED);
    }

    private static void remakeOfEveryMember() {
        CHECKS.sentence("MEMBER m of the BUILD that is WRITTEN has this ACCESS and these FLAGS from now on: true");
        for (int m = 0; m < 30; m++) {
            LinkPredictor x = new LinkPredictor();
            x.type(1, 1, 1, 0, 0);
            for (int n = 0; n < 30; n++) {
                x.member(0, n >= 15, n % 15, 3, 0);
            }
            x.branch();
            CHECKS.yes("remake " + m, x.remake(m, Sorts.PACKAGE, Sorts.ABSTRACT));
            int kind = m >= 15 ? Sorts.VIRTUAL : Sorts.GET;
            CHECKS.due("NEW", told(x, 1, kind, 1, 0, m % 15), Sorts.BARRED + Sorts.M + m);
            CHECKS.due("OLD", told(x, 0, kind, 1, 0, m % 15), Sorts.M + m);
            int next = (m + 1) % 30;
            int nextKind = next >= 15 ? Sorts.VIRTUAL : Sorts.GET;
            CHECKS.due("the next one", told(x, 1, nextKind, 1, 0, next % 15), Sorts.M + next);
            CHECKS.due("ABSTRACT METHODS", x.count(1, 5), m >= 15 ? 1 : 0);
        }
    }

    private static void remakeChangesNothingElse() {
        CHECKS.sentence("has this ACCESS and these FLAGS from now on: true");
        for (int access = 0; access <= 3; access++) {
            for (int flags = 0; flags <= 7; flags++) {
                LinkPredictor made = new LinkPredictor();
                made.member(0, true, 14, access, flags);
                LinkPredictor x = new LinkPredictor();
                x.member(0, true, 14, 3 - access, 7 - flags);
                CHECKS.yes("remake", x.remake(0, access, flags));
                for (int kind = 4; kind <= 6; kind++) {
                    CHECKS.due("as if made so", told(x, 0, kind, 0, 0, 14), told(made, 0, kind, 0, 0, 14));
                }
                CHECKS.due("has one of this sign", x.member(0, true, 14, 3, 0), LinkPredictor.REFUSED);
                CHECKS.due("and no other", x.member(0, false, 14, 3, 0), 1);
            }
        }
        Refusals rich = new Refusals(CHECKS, Scenes::rich);
        rich.due("as it is", x -> x.remake(4, 3, 1) ? 1 : 0, 1);
    }

    private static void remakeRefusesWrongNumbers() {
        CHECKS.sentence("false if a number is not as said, or it is GONE, or there is none such.");
        Refusals.everyWrongNumber(CHECKS, "remake", (x, a) -> x.remake(a[0], a[1], a[2]) ? 1 : 0, 0,
                new int[] {1, 1, 3}, new Range(0, 29), Range.ACCESS, Range.MEMBER_FLAGS);
    }

    private static void remakeOfGone() {
        CHECKS.sentence("or it is GONE, or there is none such.");
        Refusals rich = new Refusals(CHECKS, Scenes::rich);
        rich.due("removed before branch", x -> x.remake(7, 3, 0) ? 1 : 0, 0);
        rich.due("removed in NEW", x -> x.remake(3, 0, 7) ? 1 : 0, 0);
        rich.due("its TYPE was dropped", x -> x.remake(8, 3, 0) ? 1 : 0, 0);
        Refusals full = new Refusals(CHECKS, Scenes::full);
        full.due("the last one", x -> x.remake(29, 3, 0) ? 1 : 0, 0);
        CHECKS.yes("not GONE in OLD", Scenes.richWithOldWritten().remake(3, 0, 7));
        LinkPredictor x = Scenes.rich();
        x.type(6, 1, 0, 0, 0);
        CHECKS.no("its TYPE is THERE again", x.remake(8, 3, 0));
    }

    private static void remakeOfNoneSuch() {
        CHECKS.sentence("it is GONE, or there is none such.");
        Refusals rich = new Refusals(CHECKS, Scenes::rich);
        Refusals old = new Refusals(CHECKS, Scenes::richWithOldWritten);
        for (int m = 11; m <= 31; m++) {
            int number = m;
            rich.due("remake " + m, x -> x.remake(number, 3, 0) ? 1 : 0, 0);
        }
        old.due("NEW alone has it", x -> x.remake(9, 3, 0) ? 1 : 0, 0);
        CHECKS.yes("the last one of NEW", Scenes.rich().remake(10, 3, 0));
        CHECKS.yes("the last one of OLD", Scenes.richWithOldWritten().remake(8, 3, 0));
        CHECKS.no("30", Scenes.full().remake(30, 3, 0));
    }

    private static void removeOfEveryMember() {
        CHECKS.sentence("MEMBER m of the BUILD that is WRITTEN is GONE: true");
        for (int m = 0; m < 30; m++) {
            LinkPredictor x = new LinkPredictor();
            for (int n = 0; n < 30; n++) {
                x.member(0, n >= 15, n % 15, 3, 0);
            }
            x.branch();
            CHECKS.yes("remove " + m, x.remove(m));
            CHECKS.due("NEW", x.count(1, 1), 29);
            CHECKS.due("OLD", x.count(0, 1), 30);
            for (int n = 0; n < 30; n++) {
                int kind = n >= 15 ? Sorts.VIRTUAL : Sorts.GET;
                int none = n >= 15 ? Sorts.NO_METHOD : Sorts.NO_FIELD;
                CHECKS.due("resolve " + n, told(x, 1, kind, 0, 0, n % 15), n == m ? none : Sorts.M + n);
            }
        }
    }

    private static void removeOfGone() {
        CHECKS.sentence("is GONE: true; false if it is so, or there is none such.");
        Refusals rich = new Refusals(CHECKS, Scenes::rich);
        rich.due("removed before branch", x -> x.remove(7) ? 1 : 0, 0);
        rich.due("removed in NEW", x -> x.remove(3) ? 1 : 0, 0);
        rich.due("its TYPE was dropped", x -> x.remove(8) ? 1 : 0, 0);
        Refusals full = new Refusals(CHECKS, Scenes::full);
        full.due("the last one", x -> x.remove(29) ? 1 : 0, 0);
        LinkPredictor x = Scenes.richWithOldWritten();
        CHECKS.yes("not GONE in OLD", x.remove(3));
        CHECKS.no("not twice", x.remove(3));
    }

    private static void removeOfNoneSuch() {
        CHECKS.sentence("false if it is so, or there is none such.");
        Refusals.everyWrongNumber(CHECKS, "remove", (x, a) -> x.remove(a[0]) ? 1 : 0, 0, new int[] {1},
                new Range(0, 29));
        Refusals rich = new Refusals(CHECKS, Scenes::rich);
        Refusals old = new Refusals(CHECKS, Scenes::richWithOldWritten);
        for (int m = 11; m <= 31; m++) {
            int number = m;
            rich.due("remove " + m, x -> x.remove(number) ? 1 : 0, 0);
        }
        old.due("NEW alone has it", x -> x.remove(9) ? 1 : 0, 0);
        CHECKS.yes("the last one of NEW", Scenes.rich().remove(10));
        CHECKS.yes("the last one of OLD", Scenes.richWithOldWritten().remove(8));
    }

    private static void goneIsNoMemberAnyMore() {
        CHECKS.sentence("(then it is no MEMBER of its TYPE any more, keeping its number)");
        LinkPredictor x = new LinkPredictor();
        x.type(1, 3, 0, 0, 0);
        x.type(2, 1, 0, 0, 1 << 1);
        x.type(3, 1, 0, 2, 0);
        x.member(1, true, 0, 3, 0);
        x.member(2, true, 0, 3, 0);
        x.member(3, true, 0, 3, 0);
        x.member(3, true, 1, 3, Sorts.ABSTRACT);
        x.remove(2);
        CHECKS.due("not RESOLVED", told(x, 0, Sorts.VIRTUAL, 0, 3, 0), Sorts.M + 1);
        int face = x.refer(Sorts.FACE, 0, 1, 0);
        CHECKS.due("not SELECTED", x.select(0, face, 3), Sorts.M + 1);
        x.remove(1);
        CHECKS.due("nor the next", x.select(0, face, 3), Sorts.M);
        CHECKS.due("the BEST of the FACES", told(x, 0, Sorts.VIRTUAL, 0, 3, 0), Sorts.M);
        x.remove(0);
        CHECKS.due("none at all", told(x, 0, Sorts.VIRTUAL, 0, 3, 0), Sorts.NO_METHOD + 3);
        x.remove(3);
        CHECKS.due("no ABSTRACT METHOD", x.count(0, 5), 0);
        CHECKS.due("the numbers are kept", x.member(1, true, 0, 3, 0), 4);
    }
}
