/** Promises 26 to 47: each sentence that names a boundary case, those of parts II to IV that they tell among them. */
final class BoundsOfPromises26To47 {
    private static final int SMALL = Bounds.SMALL;
    private static final int GREAT = Bounds.GREAT;
    private static final String EIGHT_EASY = "011 011 011 011 011 011 011 011";

    private BoundsOfPromises26To47() {
    }

    private static void due(String call, long got, long want) {
        Bounds.due(call, got, want);
    }

    private static WhichWayRound with(String streets, String ways, String skills) {
        return Bounds.with(streets, ways, skills);
    }

    // ---- 26: strict

    /** Learners 0, 1, 2 have 10, 6, 0 faults on way 0 at all hours, way 1 has 6 in a street for learner 0. */
    private static WhichWayRound examined(int... row) {
        WhichWayRound x = with("051 051 061", "3 4", "0 2 5");
        Bounds.row(x, row);
        return x;
    }

    private static void strict(WhichWayRound x, int way, int many, int least) {
        due("how many", x.strict(way, 0), many);
        due("the least", x.strict(way, 1), least);
    }

    static void promise26IsByAll100LimitsWhereNothingIsTold() {
        strict(examined(), 0, 100, 0);
        due("hours", examined().strict(0, 2), Bounds.ALL_HOURS);
        strict(with("001", "1", ""), 0, 100, 0);
    }

    static void promise26PassedIsFromTheFaultsTo99() {
        strict(examined(1), 0, 90, 10);
        strict(examined(1, 1), 0, 90, 10);
        strict(examined(2, 1), 0, 94, 6);
        strict(examined(2, 2, 1), 0, 100, 0);
    }

    static void promise26NotPassedIsFrom0BelowTheFaults() {
        strict(examined(0), 0, 10, 0);
        strict(examined(2, 0), 0, 6, 0);
        strict(examined(0, 0), 0, 6, 0);
    }

    static void promise26PassedAndNotPassedAreBetween() {
        strict(examined(0, 1), 0, 4, 6);
        strict(examined(0, 2, 1), 0, 10, 0);
    }

    static void promise26IsByOneLimit() {
        WhichWayRound x = with("041", "1", "0 1");
        Bounds.row(x, 0, 1);
        strict(x, 0, 1, 3);
    }

    static void promise26IsByNone() {
        strict(examined(1, 0), 0, 0, -9);
        strict(examined(2, 2, 0), 0, 0, -9);
        strict(examined(1), 1, 0, -9);
    }

    static void promise26TooManyInAStreetAreNotPassedByAnyLimit() {
        strict(examined(0), 1, 100, 0);
        strict(examined(0, 1), 1, 96, 4);
    }

    static void promise26NotToldIs2() {
        strict(examined(2, 2, 2), 0, 100, 0);
        due("hours", examined(2, 2, 2).strict(0, 2), Bounds.ALL_HOURS);
        strict(examined(2, 2, 2), 1, 100, 0);
    }

    static void promise26LimitsAreWhateverTheLimitIs() {
        WhichWayRound x = examined(0, 1);
        x.sets(1, 0);
        strict(x, 0, 4, 6);
        x.sets(1, 99);
        strict(x, 0, 4, 6);
    }

    static void promise26LimitsAreAtHour() {
        WhichWayRound x = with("211", "1", "0");
        Bounds.row(x, 1);
        x.sets(0, 14);
        strict(x, 0, 98, 2);
        x.sets(0, 15);
        strict(x, 0, 96, 4);
        Bounds.row(x, 0);
        strict(x, 0, 4, 0);
        x.sets(0, 14);
        strict(x, 0, 2, 0);
    }

    static void promise26HoursAreNoneOrAll() {
        due("all, passed", examined(1, 1, 1).strict(0, 2), Bounds.ALL_HOURS);
        due("none, passed", examined(0).strict(0, 2), 0);
        WhichWayRound x = examined(0, 1);
        x.sets(1, 9);
        due("between", x.strict(0, 2), Bounds.ALL_HOURS);
        x.sets(1, 10);
        due("above", x.strict(0, 2), 0);
        x.sets(1, 6);
        due("the least", x.strict(0, 2), Bounds.ALL_HOURS);
        x.sets(1, 5);
        due("below", x.strict(0, 2), 0);
    }

    static void promise26HoursAreThoseByWhichItIsSo() {
        WhichWayRound x = with("231", "1", "0 9");
        Bounds.row(x, 0, 1);
        due("not passed at 15 to 17", x.strict(0, 2), 7 << 15);
        Bounds.row(x, 1, 1);
        due("passed at the others", x.strict(0, 2), Bounds.ALL_HOURS & ~(7 << 15));
    }

    static void promise26IsOfTheWayTold() {
        WhichWayRound x = examined(1);
        strict(x, 0, 90, 10);
        strict(x, 1, 0, -9);
        due("hours of way 0", x.strict(0, 2), Bounds.ALL_HOURS);
        due("hours of way 1", x.strict(1, 2), 0);
    }

    static void promise26IsByWhatEachKnows() {
        WhichWayRound x = with("061", "1", "0 0");
        x.knows(1, 0);
        Bounds.row(x, 0, 1);
        strict(x, 0, 97, 3);
        due("hours", x.strict(0, 2), Bounds.ALL_HOURS);
        Bounds.row(x, 1, 2);
        strict(x, 0, 0, -9);
        due("no hours", x.strict(0, 2), 0);
    }

    static void promise26TheRowStays() {
        WhichWayRound x = examined(0, 1, 2);
        for (int what = 0; what <= 2; what++) {
            x.strict(0, what);
            due("numbers", x.count(8), 3);
        }
        strict(x, 0, 4, 6);
        due("judged as it was told", x.judge(2), 1);
    }

    static void promise26RefusesNoSuchWay() {
        Bounds.refused(-1, Bounds::aTown, x -> x.strict(-1, 0), x -> x.strict(4, 0), x -> x.strict(SMALL, 2), x -> x.strict(GREAT, 2));
    }

    static void promise26RefusesAnotherWhat() {
        Bounds.refused(-2, Bounds::aTown, x -> x.strict(0, -1), x -> x.strict(0, 3), x -> x.strict(3, SMALL), x -> x.strict(3, GREAT));
    }

    static void promise26RefusesMoreNumbersThanLearners() {
        due("as many", examined(2, 2, 2).strict(0, 0), 100);
        Bounds.refused(-3, () -> examined(2, 2, 2, 2), x -> x.strict(0, 0), x -> x.strict(0, 1), x -> x.strict(0, 2));
        Bounds.refused(-3, () -> row(with("001", "1", ""), 2), x -> x.strict(0, 0));
        Bounds.refused(-3, () -> row(with("001", "1", "0 0 0 0 0"), 2, 2, 2, 2, 2, 2), x -> x.strict(0, 0));
        due("five of five", row(with("001", "1", "0 0 0 0 0"), 2, 2, 2, 2, 2).strict(0, 0), 100);
    }

    private static WhichWayRound row(WhichWayRound x, int... numbers) {
        Bounds.row(x, numbers);
        return x;
    }

    static void promise26RefusesANumberAbove2() {
        Bounds.refused(-3, () -> examined(3, 1, 1), x -> x.strict(0, 0), x -> x.strict(0, 1), x -> x.strict(0, 2));
        Bounds.refused(-3, () -> examined(1, 1, 3), x -> x.strict(0, 0));
        Bounds.refused(-3, () -> examined(99), x -> x.strict(0, 0));
        Bounds.refused(-3, () -> examined(1, 99), x -> x.strict(0, 2));
        for (int number = 3; number <= 99; number++) {
            due("number " + number, examined(number).strict(0, 0), -3);
        }
    }

    static void promise26RefusesInOrder() {
        Bounds.refused(-1, () -> examined(3, 3, 3, 3), x -> x.strict(2, 3), x -> x.strict(-1, 0));
        Bounds.refused(-2, () -> examined(3, 3, 3, 3), x -> x.strict(0, 3), x -> x.strict(0, -1));
    }

    // ---- 27: queue

    private static void order(WhichWayRound x, int way, int many, int... order) {
        due("how many", x.queue(way, -1), many);
        for (int i = 0; i < order.length; i++) {
            due("the " + i + ".", x.queue(way, i), order[i]);
        }
        due("behind them", x.queue(way, order.length), -9);
    }

    static void promise27OfNobody() {
        order(with("001", "1", ""), 0, 0);
    }

    static void promise27OfOne() {
        order(with("051", "1", "0"), 0, 1, 0);
        order(with("061", "1", "0"), 0, 0, 0);
    }

    static void promise27OfFiveTakesTheFirstOrderOfSeveral() {
        order(with("051", "1", "0 0 0 0 0"), 0, 5, 0, 1, 2, 3, 4);
        order(with("061", "1", "0 0 0 0 0"), 0, 0, 0, 1, 2, 3, 4);
        order(with("061", "1", "0 1 0 1 0"), 0, 2, 0, 1, 2, 3, 4);
    }

    static void promise27MostPassByTheFirstAndTheLastOfFive() {
        // At 14 and 18 a ring has 5, at 15, 16, 17 it has 7: learners 3 and 4 must not have these.
        WhichWayRound x = with("241", "1", "9 9 9 0 0");
        x.sets(0, 14);
        order(x, 0, 5, 3, 0, 1, 2, 4);
    }

    static void promise27OneMoreOfThemFails() {
        WhichWayRound x = with("241", "1", "9 9 0 0 0");
        x.sets(0, 14);
        order(x, 0, 4, 2, 0, 1, 3, 4);
    }

    static void promise27BeginsAtHour() {
        WhichWayRound x = with("241", "1", "0 9");
        x.sets(0, 15);
        order(x, 0, 1, 0, 1);
        x.sets(0, 17);
        order(x, 0, 2, 1, 0);
        x.sets(0, 18);
        order(x, 0, 2, 0, 1);
        x.sets(0, 14);
        order(x, 0, 2, 0, 1);
    }

    static void promise27GoesRound() {
        WhichWayRound x = with("251 311", "1 2", "0 0 0 0 0");
        x.sets(0, 23);
        order(x, 0, 0, 0, 1, 2, 3, 4);
        x.sets(1, 3);
        order(x, 1, 5, 0, 1, 2, 3, 4);
        x.sets(0, 22);
        order(x, 1, 5, 0, 1, 2, 3, 4);
    }

    static void promise27IsNoneBehindTheLast() {
        WhichWayRound x = with("001", "1", "0 0 0 0 0");
        due("the last", x.queue(0, 4), 4);
        due("behind", x.queue(0, 5), -9);
        due("far behind", x.queue(0, GREAT), -9);
    }

    static void promise27NobodyIsTaught() {
        WhichWayRound x = with("061", "1", "0 0");
        x.queue(0, -1);
        due("known", x.count(6), 0);
    }

    static void promise27RefusesNoSuchWay() {
        Bounds.refused(-1, Bounds::some, x -> x.queue(-1, 0), x -> x.queue(4, 0), x -> x.queue(SMALL, -1), x -> x.queue(GREAT, -1));
        Bounds.refused(-1, Bounds::full, x -> x.queue(6, 0));
    }

    static void promise27RefusesBelowMinus1() {
        Bounds.refused(-4, Bounds::some, x -> x.queue(0, -2), x -> x.queue(3, SMALL));
    }

    static void promise27RefusesWayAheadOfI() {
        Bounds.refused(-1, Bounds::some, x -> x.queue(4, -2), x -> x.queue(-1, -2));
    }

    // ---- 28: lessons

    static void promise28IsNoneWhereOnePasses() {
        due("none", with("051", "1", "0").lessons(0, 0, 0), 0);
    }

    static void promise28ShowsByNumbers() {
        WhichWayRound x = with("011 041", "3", "0");
        x.sets(1, 3);
        due("1 and 4 to 0 and 2, though street 1 would do", x.lessons(0, 0, 0), 2);
        WhichWayRound y = with("041 011", "3", "0");
        y.sets(1, 3);
        due("4 and 1 to 2 and 1", y.lessons(0, 0, 0), 1);
    }

    static void promise28ShowsNoneThatIsKnown() {
        WhichWayRound x = with("011 041", "3", "0");
        x.sets(1, 3);
        x.knows(0, 0);
        due("street 1 alone", x.lessons(0, 0, 0), 1);
    }

    static void promise28ShowsStreetsOfTheWayAlone() {
        WhichWayRound x = with("011 041 041", "6", "0");
        x.sets(1, 6);
        due("street 1", x.lessons(0, 0, 0), 1);
    }

    static void promise28IsBySkill() {
        due("6 less 1", with("061", "1", "0 1").lessons(1, 0, 0), 0);
        due("6 less 0", with("061", "1", "0 1").lessons(0, 0, 0), 1);
    }

    static void promise28IsBySkillBehindALesson() {
        WhichWayRound x = with("591", "1", "0 2");
        due("13 known are 6", x.lessons(0, 0, 15), -9);
        due("11 known are 5", x.lessons(1, 0, 15), 1);
    }

    static void promise28IsByWhatTheLearnerKnows() {
        WhichWayRound x = with("061", "1", "0 0");
        x.knows(1, 0);
        due("not known", x.lessons(0, 0, 0), 1);
        due("known", x.lessons(1, 0, 0), 0);
    }

    static void promise28IsOfTheWayTold() {
        WhichWayRound x = with("001 061 591", "1 2 4", "0");
        due("passed as it is", x.lessons(0, 0, 15), 0);
        due("with one", x.lessons(0, 1, 15), 1);
        due("not with all", x.lessons(0, 2, 15), -9);
        due("with one, where way 0 is not passed", with("591 061", "1 2", "0").lessons(0, 1, 15), 1);
    }

    static void promise28ShowsAll8() {
        WhichWayRound x = with(EIGHT_EASY, "255", "0");
        x.sets(1, 0);
        due("all", x.lessons(0, 0, 0), 8);
        x.sets(1, 1);
        due("all but one", x.lessons(0, 0, 0), 7);
        x.sets(1, 7);
        due("one", x.lessons(0, 0, 0), 1);
        x.sets(1, 8);
        due("none", x.lessons(0, 0, 0), 0);
    }

    static void promise28IsNoneNotWithAll() {
        WhichWayRound x = with("591", "1", "0");
        due("13 known are 6", x.lessons(0, 0, 15), -9);
        due("11 known are 5", x.lessons(0, 0, 14), 1);
        x.knows(0, 0);
        due("known, 6", x.lessons(0, 0, 15), -9);
        due("known, 5", x.lessons(0, 0, 14), 0);
    }

    static void promise28TakesHours0And23() {
        WhichWayRound x = with("231", "1", "0");
        int[][] dues = {{0, 0}, {14, 0}, {15, 1}, {17, 1}, {18, 0}, {23, 0}};
        for (int[] each : dues) {
            due("at " + each[0], x.lessons(0, 0, each[0]), each[1]);
        }
    }

    static void promise28RefusesAny() {
        Bounds.refused(-1, Bounds::some, x -> x.lessons(-1, 0, 8), x -> x.lessons(3, 0, 8), x -> x.lessons(0, -1, 8),
            x -> x.lessons(0, 4, 8), x -> x.lessons(0, 0, -1), x -> x.lessons(0, 0, 24), x -> x.lessons(SMALL, GREAT, GREAT));
        Bounds.refused(-1, Bounds::full, x -> x.lessons(5, 0, 8), x -> x.lessons(0, 6, 8));
    }

    // ---- 29: ball

    private static void ball(WhichWayRound x, int way, int t, long above, long below) {
        due("above", x.ball(0, way, t, 0), above);
        due("below", x.ball(0, way, t, 1), below);
    }

    static void promise29TakesT2And20() {
        WhichWayRound x = with("051", "1", "0");
        ball(x, 0, 2, 1, 2);
        ball(x, 0, 20, 19, 20);
    }

    static void promise29Is0By1() {
        ball(with("061", "1", "0"), 0, 2, 0, 1);
        ball(with("061", "1", "0"), 0, 20, 0, 1);
    }

    static void promise29Is1By1() {
        ball(with("041", "1", "0"), 0, 2, 1, 1);
        ball(with("041", "1", "0"), 0, 20, 1, 1);
    }

    static void promise29MayMake5InAStreetNot6() {
        ball(with("041", "1", "0"), 0, 4, 1, 1);
        ball(with("051", "1", "0"), 0, 4, 3, 4);
        ball(with("121", "1", "0"), 0, 4, 1, 1);
        ball(with("131", "1", "0"), 0, 4, 3, 4);
        ball(with("211", "1", "0"), 0, 4, 1, 1);
        ball(with("221", "1", "0"), 0, 4, 3, 4);
        ball(with("301", "1", "3"), 0, 4, 1, 1);
        ball(with("301", "1", "2"), 0, 4, 3, 4);
        ball(with("491", "1", "0"), 0, 4, 1, 1);
        ball(with("501", "1", "0"), 0, 4, 1, 1);
        ball(with("511", "1", "0"), 0, 4, 3, 4);
    }

    static void promise29MayMakeTheLimitNotMore() {
        WhichWayRound x = with("041", "1", "0");
        x.sets(1, 5);
        ball(x, 0, 4, 1, 1);
        x.sets(1, 4);
        ball(x, 0, 4, 3, 4);
        x.sets(1, 3);
        ball(x, 0, 4, 0, 1);
    }

    static void promise29IsAddedBehindSkillAndKnown() {
        WhichWayRound x = with("001", "1", "9");
        x.sets(1, 0);
        ball(x, 0, 4, 3, 4);
        WhichWayRound y = with("031", "1", "0");
        y.knows(0, 0);
        y.sets(1, 1);
        ball(y, 0, 4, 3, 4);
        y.sets(1, 2);
        ball(y, 0, 4, 1, 1);
    }

    static void promise29IsInLowestTerms() {
        WhichWayRound x = with("041 041", "3", "0");
        x.sets(1, 9);
        // Not with two balls: 15 of 16, 8 of 9.
        ball(x, 0, 4, 15, 16);
        ball(x, 0, 3, 8, 9);
        x.sets(1, 8);
        ball(x, 0, 10, 81, 100);
        WhichWayRound y = with("051 041", "3", "0");
        // The first without a ball, the second as it likes: t - 1 of t.
        ball(y, 0, 2, 1, 2);
        ball(y, 0, 20, 19, 20);
    }

    static void promise29OfEightStreets() {
        WhichWayRound x = with(EIGHT_EASY, "255", "0");
        x.sets(1, 8);
        ball(x, 0, 20, 16983563041L, 25600000000L);
        ball(x, 0, 2, 1, 256);
        x.sets(1, 9);
        // 19^8 and 8 times 19^7.
        ball(x, 0, 20, 16983563041L + 8L * 893871739L, 25600000000L);
        x.sets(1, 15);
        ball(x, 0, 2, 255, 256);
        x.sets(1, 16);
        ball(x, 0, 20, 1, 1);
    }

    static void promise29IsAtHour() {
        WhichWayRound x = with("211", "1", "0");
        x.sets(0, 14);
        ball(x, 0, 4, 1, 1);
        x.sets(0, 15);
        ball(x, 0, 4, 3, 4);
    }

    static void promise29IsOfTheWaysStreetsAlone() {
        ball(with("061 041 061", "2", "0"), 0, 4, 1, 1);
        ball(with("061 051 061", "2", "0"), 0, 4, 3, 4);
    }

    static void promise29IsOfTheLearnerTold() {
        WhichWayRound x = with("051", "1", "0 1 0");
        x.knows(2, 0);
        x.sets(1, 4);
        int[][] dues = {{0, 0, 1}, {1, 3, 4}, {2, 1, 1}};
        for (int[] each : dues) {
            due("above of " + each[0], x.ball(each[0], 0, 4, 0), each[1]);
            due("below of " + each[0], x.ball(each[0], 0, 4, 1), each[2]);
        }
    }

    static void promise29IsOfTheWayTold() {
        WhichWayRound x = with("041 051 051", "1 6", "0");
        ball(x, 0, 4, 1, 1);
        // No ball in either street.
        ball(x, 1, 4, 9, 16);
    }

    static void promise29RefusesNoSuchLearner() {
        Bounds.refusedLong(-1, Bounds::some, x -> x.ball(-1, 0, 2, 0), x -> x.ball(3, 0, 2, 0), x -> x.ball(SMALL, 0, 2, 1),
            x -> x.ball(GREAT, 0, 2, 1));
        Bounds.refusedLong(-1, Bounds::full, x -> x.ball(5, 0, 2, 0));
    }

    static void promise29RefusesNoSuchWay() {
        Bounds.refusedLong(-1, Bounds::some, x -> x.ball(0, -1, 2, 0), x -> x.ball(0, 4, 2, 0), x -> x.ball(0, SMALL, 2, 1),
            x -> x.ball(0, GREAT, 2, 1));
        Bounds.refusedLong(-1, Bounds::full, x -> x.ball(0, 6, 2, 0));
    }

    static void promise29RefusesTBelow2() {
        Bounds.refusedLong(-4, Bounds::some, x -> x.ball(0, 0, 1, 0), x -> x.ball(0, 0, 0, 0), x -> x.ball(0, 0, -1, 1),
            x -> x.ball(2, 3, SMALL, 1));
    }

    static void promise29RefusesTAbove20() {
        Bounds.refusedLong(-6, Bounds::some, x -> x.ball(0, 0, 21, 0), x -> x.ball(2, 3, GREAT, 1));
    }

    static void promise29RefusesAnotherPart() {
        Bounds.refusedLong(-2, Bounds::some, x -> x.ball(0, 0, 2, -1), x -> x.ball(2, 3, 20, 2), x -> x.ball(0, 0, 2, SMALL),
            x -> x.ball(0, 0, 2, GREAT));
    }

    static void promise29RefusesInOrder() {
        Bounds.refusedLong(-1, Bounds::some, x -> x.ball(3, 0, 1, 2), x -> x.ball(0, 4, 21, 2), x -> x.ball(-1, -1, 2, -1));
        Bounds.refusedLong(-4, Bounds::some, x -> x.ball(0, 0, 1, 2));
        Bounds.refusedLong(-6, Bounds::some, x -> x.ball(0, 0, 21, 2));
    }

    // ---- 30: crowded

    private static void crowded(WhichWayRound x, int street, int many, int free) {
        due("street", x.crowded(0), street);
        due("in how many", x.crowded(1), many);
        due("free", x.crowded(2), free);
    }

    static void promise30IsNoneWithoutStreets() {
        crowded(new WhichWayRound(), -9, 0, 0);
    }

    static void promise30IsStreet0WhereNoneIsInAWay() {
        crowded(with("001", "", ""), 0, 0, 1);
        crowded(with(EIGHT_EASY, "", ""), 0, 0, 255);
    }

    static void promise30IsOfSeveralTheLeast() {
        crowded(with("001 001 001", "7", ""), 0, 1, 0);
        crowded(with("001 001 001", "6 6 1", ""), 1, 2, 0);
    }

    static void promise30MayBeTheLastInAll() {
        crowded(with(EIGHT_EASY, "128 129 130 132 136 255", ""), 7, 6, 0);
        crowded(with("001 001", "2", ""), 1, 1, 1);
    }

    static void promise30FreeIsNoneOrSome() {
        crowded(with(EIGHT_EASY, "1 2", ""), 0, 1, 252);
        crowded(with(EIGHT_EASY, "254", ""), 1, 1, 1);
        crowded(with(EIGHT_EASY, "255", ""), 0, 1, 0);
        crowded(with(EIGHT_EASY, "1 1 1 1 1 128", ""), 0, 5, 126);
    }

    static void promise30RefusesAnotherWhat() {
        Bounds.refused(-2, Bounds::some, x -> x.crowded(-1), x -> x.crowded(3), x -> x.crowded(SMALL), x -> x.crowded(GREAT));
        Bounds.refused(-2, Bounds::empty, x -> x.crowded(3));
    }

    // ---- 31: rank

    private static void ranks(WhichWayRound x, int way, int... order) {
        for (int i = 0; i < order.length; i++) {
            due("the " + i + ".", x.rank(way, i), order[i]);
        }
    }

    static void promise31HasTheFewestFirst() {
        ranks(with("091", "1", "0 1 2 3 4"), 0, 4, 3, 2, 1, 0, -9);
        ranks(with("091", "1", "4 3 2 1 0"), 0, 0, 1, 2, 3, 4, -9);
    }

    static void promise31IsOfSeveralTheLeastNumber() {
        ranks(with("091", "1", "0 5 0 5 0"), 0, 1, 3, 0, 2, 4, -9);
        ranks(with("001", "1", "0 9 0 9 0"), 0, 0, 1, 2, 3, 4, -9);
    }

    static void promise31IsNoneBehindTheLast() {
        ranks(with("001", "1", ""), 0, -9, -9);
        ranks(with("001", "1", "0"), 0, 0, -9, -9);
        due("far behind", with("001", "1", "0").rank(0, GREAT), -9);
    }

    static void promise31IsAtHour() {
        // 3 less 2 and half of 3 at 14, 5 less 2 and half of 5 at 15.
        WhichWayRound x = with("221", "1", "2 0");
        x.knows(1, 0);
        x.sets(0, 14);
        ranks(x, 0, 0, 1);
        x.sets(0, 15);
        ranks(x, 0, 1, 0);
    }

    static void promise31IsOnTheWayTold() {
        WhichWayRound x = with("091 001", "1 2", "0 1");
        ranks(x, 0, 1, 0, -9);
        ranks(x, 1, 0, 1, -9);
    }

    static void promise31RefusesNoSuchWay() {
        Bounds.refused(-1, Bounds::some, x -> x.rank(-1, 0), x -> x.rank(4, 0), x -> x.rank(SMALL, 0), x -> x.rank(GREAT, 0));
        Bounds.refused(-1, Bounds::full, x -> x.rank(6, 0));
    }

    static void promise31RefusesBelow0() {
        Bounds.refused(-4, Bounds::some, x -> x.rank(0, -1), x -> x.rank(3, SMALL));
    }

    static void promise31RefusesWayAheadOfI() {
        Bounds.refused(-1, Bounds::some, x -> x.rank(4, -1), x -> x.rank(-1, -1));
    }

    // ---- 32: skillWanted

    static void promise32IsFrom0To9() {
        // Hard 5 needs skill 0, each 1 more another; a school's 14 at 8 needs 9.
        due("5", with("051", "1", "9").skillWanted(0, 0, 0), 0);
        due("6", with("061", "1", "9").skillWanted(0, 0, 0), 1);
        due("9", with("091", "1", "0").skillWanted(0, 0, 0), 4);
        due("11", with("191", "1", "0").skillWanted(0, 0, 0), 6);
        due("12", with("291", "1", "0").skillWanted(0, 0, 15), 7);
        due("13", with("591", "1", "0").skillWanted(0, 0, 15), 8);
        due("14", with("351", "1", "0").skillWanted(0, 0, 8), 9);
    }

    static void promise32IsNoneWhere9IsNotEnough() {
        due("16", with("361", "1", "9").skillWanted(0, 0, 8), -9);
        due("8 at another hour", with("361", "1", "0").skillWanted(0, 0, 9), 3);
    }

    static void promise32IsByTheLimit() {
        WhichWayRound x = with("091", "1", "0");
        x.sets(1, 0);
        due("9", x.skillWanted(0, 0, 0), 9);
        WhichWayRound y = with("191", "1", "0");
        y.sets(1, 2);
        due("11 to 2", y.skillWanted(0, 0, 0), 9);
        y.sets(1, 1);
        due("11 to 1", y.skillWanted(0, 0, 0), -9);
    }

    static void promise32IsByWhatIsKnown() {
        WhichWayRound x = with("361", "1", "0 0");
        x.knows(0, 0);
        // Half of 16 less 5, cut, is 5.
        due("known", x.skillWanted(0, 0, 8), 5);
        due("not known", x.skillWanted(1, 0, 8), -9);
    }

    static void promise32IsOfTheWayAndTheHourTold() {
        WhichWayRound x = with("091 251", "1 2", "0");
        due("9", x.skillWanted(0, 0, 15), 4);
        due("8", x.skillWanted(0, 1, 15), 3);
        due("6", x.skillWanted(0, 1, 14), 1);
    }

    static void promise32RefusesAny() {
        Bounds.refused(-1, Bounds::some, x -> x.skillWanted(-1, 0, 8), x -> x.skillWanted(3, 0, 8), x -> x.skillWanted(0, -1, 8),
            x -> x.skillWanted(0, 4, 8), x -> x.skillWanted(0, 0, -1), x -> x.skillWanted(0, 0, 24),
            x -> x.skillWanted(GREAT, SMALL, GREAT));
        Bounds.refused(-1, Bounds::full, x -> x.skillWanted(5, 0, 8), x -> x.skillWanted(0, 6, 8));
    }

    // ---- 33: limitWanted

    static void promise33Is0WithoutLearnersOrWays() {
        due("nothing", new WhichWayRound().limitWanted(), 0);
        due("no learners", with("091", "1", "").limitWanted(), 0);
        due("no ways", with("091", "", "0").limitWanted(), 0);
    }

    static void promise33Is0WithoutFaults() {
        due("none", with("091", "1", "9 9").limitWanted(), 0);
        due("one", with("091", "1", "9 8").limitWanted(), 1);
    }

    static void promise33IsTheMostOfAll() {
        due("the first learner's", with("051 051 021", "3 4", "0 5").limitWanted(), 10);
        due("the last learner's", with("051 051 021", "4 3", "5 5 5 5 0").limitWanted(), 10);
        due("the last way's", with("051 051 051 051 051 051 051 051", "1 1 1 1 1 255", "0").limitWanted(), 40);
    }

    static void promise33IsNoneWith6InAStreet() {
        due("of one learner", with("061", "1", "9 9 0").limitWanted(), -9);
        due("of all but one", with("061 001", "1 2", "0").limitWanted(), -9);
        due("5", with("051", "1", "0").limitWanted(), 5);
    }

    static void promise33IsWhateverTheLimitIs() {
        WhichWayRound x = with("051", "1", "0");
        x.sets(1, 0);
        due("above it", x.limitWanted(), 5);
        x.sets(1, 99);
        due("below it", x.limitWanted(), 5);
        due("it stays", x.count(4), 99);
    }

    static void promise33IsByWhatEachKnows() {
        WhichWayRound x = with("061", "1", "0 0");
        x.knows(0, 0);
        due("6 of the other", x.limitWanted(), -9);
        x.knows(1, 0);
        due("3 of both", x.limitWanted(), 3);
        x.knows(0, 0);
        due("6 of the first", x.limitWanted(), -9);
    }

    static void promise33IsAtHour() {
        WhichWayRound x = with("221", "1", "0");
        x.sets(0, 14);
        due("at 14", x.limitWanted(), 3);
        x.sets(0, 15);
        due("at 15", x.limitWanted(), 5);
    }

    // ---- 34: rush

    private static void rush(WhichWayRound x, int hour, int many) {
        due("hour", x.rush(0, 0), hour);
        due("how many", x.rush(0, 1), many);
    }

    static void promise34IsOfSeveralTheLeast() {
        rush(with("051", "1", "0 0 0 0 0"), 0, 5);
        rush(with("241", "1", "0 9"), 0, 2);
    }

    static void promise34IsHour0WhereNobodyPasses() {
        rush(with("061", "1", "0 0"), 0, 0);
        rush(with("001", "1", ""), 0, 0);
    }

    static void promise34IsWhateverTheHourIs() {
        WhichWayRound x = with("241", "1", "0 9");
        x.sets(0, 15);
        rush(x, 0, 2);
    }

    static void promise34CountsThoseWhoPass() {
        rush(with("091", "1", "4 3 9 0 8"), 0, 3);
    }

    static void promise34IsOfTheWayTold() {
        WhichWayRound x = with("061 051", "1 2", "0");
        due("6", x.rush(0, 1), 0);
        due("5", x.rush(1, 1), 1);
    }

    static void promise34RefusesNoSuchWay() {
        Bounds.refused(-1, Bounds::some, x -> x.rush(-1, 0), x -> x.rush(4, 0), x -> x.rush(SMALL, 1), x -> x.rush(GREAT, 1));
        Bounds.refused(-1, Bounds::full, x -> x.rush(6, 0));
    }

    static void promise34RefusesAnotherWhat() {
        Bounds.refused(-2, Bounds::some, x -> x.rush(0, -1), x -> x.rush(3, 2), x -> x.rush(0, SMALL), x -> x.rush(0, GREAT));
    }

    static void promise34RefusesWayAheadOfWhat() {
        Bounds.refused(-1, Bounds::some, x -> x.rush(4, 2), x -> x.rush(-1, -1));
    }

    // ---- 35: newcomer

    static void promise35TakesSkills0And9() {
        WhichWayRound x = with("051 061 191", "1 2 4", "");
        due("0", x.newcomer(0), 1);
        due("1", x.newcomer(1), 3);
        due("5", x.newcomer(5), 3);
        due("6", x.newcomer(6), 7);
        due("9", x.newcomer(9), 7);
    }

    static void promise35IsNoneOrAllWays() {
        due("none", with("061", "1 1 1 1 1 1", "").newcomer(0), 0);
        due("all", with("051", "1 1 1 1 1 1", "").newcomer(0), 63);
        due("without ways", with("051", "", "").newcomer(9), 0);
    }

    static void promise35KnowsNothing() {
        WhichWayRound x = with("061", "1", "0");
        x.tests(0, 0);
        due("the learner", x.easiest(0, 8, 1), 1);
        due("the newcomer", x.newcomer(0), 0);
    }

    static void promise35IsAtHour() {
        WhichWayRound x = with("231", "1", "");
        x.sets(0, 14);
        due("at 14", x.newcomer(0), 1);
        x.sets(0, 15);
        due("at 15", x.newcomer(0), 0);
    }

    static void promise35RefusesBelow0() {
        Bounds.refused(-4, Bounds::some, x -> x.newcomer(-1), x -> x.newcomer(SMALL));
    }

    static void promise35RefusesAbove9() {
        Bounds.refused(-6, Bounds::some, x -> x.newcomer(10), x -> x.newcomer(GREAT));
    }

    // ---- 36: gain

    static void promise36CountsWaysAndHoursEach() {
        due("24 hours", with("061", "1", "0").gain(0, 0), 24);
        due("of six ways", with("061", "1 1 1 1 1 1", "0").gain(0, 0), 144);
        due("of the last street", with(EIGHT_EASY.replaceFirst("011$", "061"), "128 64", "0").gain(0, 7), 24);
        due("3 hours", with("231", "1", "0").gain(0, 0), 3);
        due("2 hours", with("311", "1", "0").gain(0, 0), 2);
    }

    static void promise36Is0WhereNothingIsGained() {
        due("passed as it is", with("051", "1", "0").gain(0, 0), 0);
        due("not passed with it", with("051 061 001", "2", "0").gain(0, 0), 0);
        due("in no way", with("061 061", "1", "0").gain(0, 1), 0);
        due("without ways", with("061", "", "0").gain(0, 0), 0);
    }

    static void promise36IsBySkill() {
        WhichWayRound x = with("061 071", "1 2", "1 0");
        due("6 less 1 is passed as it is", x.gain(0, 0), 0);
        due("7 less 1 is not", x.gain(0, 1), 24);
        due("the best of it", x.gain(0, -1), 1);
        due("the best of the other's", x.gain(1, -1), 0);
        due("6 less 0 is not passed as it is", x.gain(1, 0), 24);
        due("nor 7", x.gain(1, 1), 24);
    }

    static void promise36IsByWhatTheLearnerKnows() {
        WhichWayRound x = with("061 061", "1 2", "0 0");
        x.knows(1, 0);
        due("not known", x.gain(0, 0), 24);
        due("known", x.gain(1, 0), 0);
        due("the best of one", x.gain(0, -1), 0);
        due("the best of the other", x.gain(1, -1), 1);
    }

    static void promise36Is0IfItIsKnown() {
        WhichWayRound x = with("061", "1", "0");
        x.knows(0, 0);
        due("known", x.gain(0, 0), 0);
        due("and passed", x.bestHour(0, 0, 1), Bounds.ALL_HOURS);
    }

    static void promise36BestIsOfSeveralTheLeast() {
        due("of two", with("051 061 061", "2 4", "0").gain(0, -1), 1);
        due("without gain", with("001 001", "1", "0").gain(0, -1), 0);
        due("without ways", with("001 001", "", "0").gain(0, -1), 0);
    }

    static void promise36BestHasMost() {
        due("the first", with("061 001 061", "1 1 4", "0").gain(0, -1), 0);
        due("the last", with("061 001 061", "1 4 4", "0").gain(0, -1), 2);
        due("24 above 3", with("231 061", "1 2", "0").gain(0, -1), 1);
    }

    static void promise36BestIsNotKnown() {
        WhichWayRound x = with("061 001 001", "1", "0");
        x.knows(0, 0);
        due("of no gain the least", x.gain(0, -1), 1);
        x.knows(0, 1);
        due("the last", x.gain(0, -1), 2);
    }

    static void promise36BestIsNoneWhereAllAreKnown() {
        WhichWayRound x = with("061 001", "1", "0");
        x.knows(0, 0);
        x.knows(0, 1);
        due("all known", x.gain(0, -1), -9);
        due("without streets", with("", "", "0").gain(0, -1), -9);
    }

    static void promise36RefusesNoSuchLearner() {
        Bounds.refused(-1, Bounds::some, x -> x.gain(-1, 0), x -> x.gain(3, 0), x -> x.gain(3, -1), x -> x.gain(SMALL, 0),
            x -> x.gain(GREAT, -1));
        Bounds.refused(-1, Bounds::full, x -> x.gain(5, 0));
    }

    static void promise36RefusesNoSuchStreet() {
        Bounds.refused(-1, Bounds::some, x -> x.gain(0, 6), x -> x.gain(0, GREAT));
        Bounds.refused(-1, Bounds::full, x -> x.gain(0, 8));
        Bounds.refused(-1, () -> with("", "", "0"), x -> x.gain(0, 0));
    }

    static void promise36RefusesStreetsBelowMinus1() {
        Bounds.refused(-1, Bounds::some, x -> x.gain(0, -2), x -> x.gain(0, SMALL));
    }

    // ---- 37: career

    static void promise37TakesN0And60() {
        WhichWayRound x = with("051", "1", "0");
        due("0", x.career(0, 0), 0);
        due("1", x.career(0, 1), 1);
        due("60", x.career(0, 60), 60);
    }

    static void promise37WhatWasDrivenIsKnown() {
        WhichWayRound x = with("061", "1", "0");
        due("not at first", x.career(0, 1), 0);
        due("behind it", x.career(0, 2), 1);
        due("59 of 60", x.career(0, 60), 59);
        due("is none of now", x.learnerOf(0, 1), 0);
    }

    static void promise37IsBySkill() {
        WhichWayRound x = with("061", "1", "1 0");
        due("6 less 1", x.career(0, 1), 1);
        due("6 less 0", x.career(1, 1), 0);
    }

    static void promise37BeginsWithWhatIsKnown() {
        WhichWayRound x = with("061", "1", "0 0");
        x.knows(1, 0);
        due("at once", x.career(1, 1), 1);
        due("not another's", x.career(0, 1), 0);
    }

    static void promise37IsByTheLimit() {
        WhichWayRound x = with("041 041", "3", "0");
        x.sets(1, 8);
        due("8 and then 4", x.career(0, 2), 2);
        x.sets(1, 7);
        due("4 alone", x.career(0, 2), 1);
        x.sets(1, 4);
        due("4 alone, too", x.career(0, 2), 1);
        x.sets(1, 3);
        due("none", x.career(0, 2), 0);
    }

    static void promise37GoesRoundTheWays() {
        // Ways 0 and 2 are not passed at first, way 1 never.
        WhichWayRound x = with("061 591 061", "1 2 4", "0");
        x.sets(0, 15);
        int[] dues = {0, 0, 0, 0, 1, 1, 2, 3, 3, 4};
        for (int n = 0; n < dues.length; n++) {
            due("of " + n, x.career(0, n), dues[n]);
        }
    }

    static void promise37IsAllAtHour() {
        WhichWayRound x = with("231", "1", "0");
        x.sets(0, 14);
        due("from 14", x.career(0, 3), 3);
        x.sets(0, 17);
        due("from 17", x.career(0, 3), 2);
    }

    static void promise37Is0WithoutWays() {
        due("none", with("001", "", "0").career(0, 60), 0);
    }

    static void promise37RefusesNoSuchLearner() {
        Bounds.refused(-1, Bounds::some, x -> x.career(-1, 0), x -> x.career(3, 0), x -> x.career(SMALL, 60), x -> x.career(GREAT, 60));
        Bounds.refused(-1, Bounds::full, x -> x.career(5, 0));
    }

    static void promise37RefusesBelow0() {
        Bounds.refused(-4, Bounds::some, x -> x.career(0, -1), x -> x.career(2, SMALL));
        Bounds.refused(-4, () -> with("", "", "0"), x -> x.career(0, -1));
    }

    static void promise37RefusesAbove60() {
        Bounds.refused(-6, Bounds::some, x -> x.career(0, 61), x -> x.career(2, GREAT));
    }

    static void promise37RefusesLearnerAheadOfN() {
        Bounds.refused(-1, Bounds::some, x -> x.career(3, -1), x -> x.career(-1, 61));
    }

    // ---- 38: toughest

    static void promise38IsOfSeveralTheLeast() {
        due("alike at all hours", with("091", "1", "").toughest(0), 0);
        due("without hard", with("001", "1", "").toughest(0), 0);
        due("15, 16 and 17", with("201", "1", "").toughest(0), 15);
        due("8 and 15", with("301", "1", "").toughest(0), 8);
    }

    static void promise38IsOfAllTogether() {
        due("15 alone has both", with("301 201", "3", "").toughest(0), 15);
        due("of the way's streets alone", with("301 201", "1 2", "").toughest(0), 8);
        due("of the other way's", with("301 201", "1 2", "").toughest(1), 15);
    }

    static void promise38IsWhateverTheHourIs() {
        WhichWayRound x = with("201", "1", "");
        x.sets(0, 23);
        due("15", x.toughest(0), 15);
    }

    static void promise38RefusesNoSuchWay() {
        Bounds.refused(-1, Bounds::some, x -> x.toughest(-1), x -> x.toughest(4), x -> x.toughest(SMALL), x -> x.toughest(GREAT));
        Bounds.refused(-1, Bounds::full, x -> x.toughest(6));
    }

    // ---- 39: equal

    static void promise39IsNoneOfFewerThanTwo() {
        due("nobody", with("001", "1", "").equal(), 0);
        due("one", with("001", "1", "0").equal(), 0);
    }

    static void promise39IsOfAllTwosOfFive() {
        due("all alike", with("001", "1", "0 1 2 3 9").equal(), 10);
        due("without ways", with("", "", "0 1 2 3 9").equal(), 10);
        due("all pass none", with("361", "1", "0 1 2 3 4").equal(), 10);
    }

    static void promise39IsOfTheSameWaysNotOfAsMany() {
        WhichWayRound x = with("061 061", "1 2", "0 0 0");
        x.knows(0, 0);
        x.knows(1, 1);
        due("one way each, not the same", x.equal(), 0);
        x.knows(2, 1);
        due("the last two", x.equal(), 1);
    }

    static void promise39LooksAtTheLastWay() {
        WhichWayRound x = with("001 061", "1 1 1 1 1 2", "0 1");
        due("the last alone is not the same", x.equal(), 0);
    }

    static void promise39IsAtHour() {
        WhichWayRound x = with("231", "1", "0 1");
        x.sets(0, 14);
        due("at 14", x.equal(), 1);
        x.sets(0, 15);
        due("at 15", x.equal(), 0);
    }

    // ---- 40: longest

    static void promise40IsNoneWithoutWays() {
        due("way", with("001", "", "").longest(0), -9);
        due("minutes", with("001", "", "").longest(1), -9);
    }

    static void promise40IsOfSeveralTheLeast() {
        WhichWayRound x = with("001 003 004", "1 4 3", "");
        due("4 and 4", x.longest(0), 1);
        due("minutes", x.longest(1), 4);
    }

    static void promise40MayBeTheFirstOrTheLast() {
        due("first", with("009 001", "1 2", "").longest(0), 0);
        due("its minutes", with("009 001", "1 2", "").longest(1), 9);
        WhichWayRound x = with("009 009 009 009 009 009 009 009", "1 1 1 1 127 255", "");
        due("last", x.longest(0), 5);
        due("72 minutes", x.longest(1), 72);
        due("one minute", with("001", "1", "").longest(1), 1);
    }

    static void promise40RefusesAnotherWhat() {
        Bounds.refused(-2, Bounds::some, x -> x.longest(-1), x -> x.longest(2), x -> x.longest(SMALL), x -> x.longest(GREAT));
        Bounds.refused(-2, Bounds::empty, x -> x.longest(2));
    }

    // ---- 41: row

    static void promise41TellsHowMany() {
        WhichWayRound x = new WhichWayRound();
        for (int i = 1; i <= 12; i++) {
            due("number", x.row(i), i);
        }
        due("numbers", x.count(8), 12);
    }

    static void promise41Takes0And99() {
        WhichWayRound x = new WhichWayRound();
        due("0", x.row(0), 1);
        due("99", x.row(99), 2);
    }

    static void promise41RefusesBelow0() {
        Bounds.refused(-4, Bounds::some, x -> x.row(-1), x -> x.row(SMALL));
    }

    static void promise41RefusesAbove99() {
        Bounds.refused(-6, Bounds::some, x -> x.row(100), x -> x.row(GREAT));
    }

    static void promise41RefusesThe13th() {
        Bounds.refused(-6, Bounds::full, x -> x.row(0), x -> x.row(99), x -> x.row(100));
    }

    static void promise41RefusesBelowAheadOfNoRoom() {
        Bounds.refused(-4, Bounds::full, x -> x.row(-1));
    }

    static void promise41BeginsAnewWhereItHasNone() {
        WhichWayRound x = Bounds.full();
        x.clear();
        due("the first", x.row(7), 1);
        x.judge(0);
        due("the first again", x.row(7), 1);
    }

    // ---- 42: judge

    /** Learner 0 has 0 .. 7 faults in streets 0 .. 7. */
    private static WhichWayRound judged(int... row) {
        return row(with("001 011 021 031 041 051 061 071", "", "0 9"), row);
    }

    static void promise42IsNoneWhereAllIsSo() {
        due("all 8", judged(0, 1, 2, 3, 4, 5, 6, 7).judge(0), -9);
        due("the first", judged(0).judge(0), -9);
        due("nothing told", judged().judge(0), -9);
    }

    static void promise42IsTheFirstThatIsNotSo() {
        due("the first", judged(1, 1, 0).judge(0), 0);
        due("one more", judged(0, 2, 0).judge(0), 1);
        due("one less", judged(0, 1, 1).judge(0), 2);
        due("the last", judged(0, 1, 2, 3, 4, 5, 6, 8).judge(0), 7);
    }

    static void promise42IsTheFirstOfNoSuchStreet() {
        due("a ninth", judged(0, 1, 2, 3, 4, 5, 6, 7, 0).judge(0), 8);
        due("of twelve", judged(0, 1, 2, 3, 4, 5, 6, 7, 8, 9, 10, 11).judge(0), 8);
        due("a second of one", row(with("001", "", "0"), 0, 0).judge(0), 1);
        due("without streets", row(with("", "", "0"), 0).judge(0), 0);
    }

    static void promise42IsOfTheLearnerTold() {
        due("of the last", judged(0, 0, 0, 0, 0, 0, 0, 0).judge(1), -9);
        due("of the first", judged(0, 0, 0, 0, 0, 0, 0, 0).judge(0), 1);
    }

    static void promise42IsAtHourAndByWhatIsKnown() {
        WhichWayRound x = with("211", "", "0");
        x.sets(0, 15);
        due("4", row(x, 4).judge(0), -9);
        x.knows(0, 0);
        due("half", row(x, 2).judge(0), -9);
        x.sets(0, 14);
        due("half of 2", row(x, 1).judge(0), -9);
    }

    static void promise42TheRowHasNoneThen() {
        WhichWayRound x = judged(0, 1);
        due("all so", x.judge(0), -9);
        due("none", x.count(8), 0);
        Bounds.row(x, 1, 1);
        due("not so", x.judge(0), 0);
        due("none, too", x.count(8), 0);
        Bounds.row(x, 0, 1, 2, 3, 4, 5, 6, 7, 8);
        due("no such street", x.judge(0), 8);
        due("none, too", x.count(8), 0);
        due("nothing of it", x.judge(0), -9);
    }

    static void promise42LeavesTheLetters() {
        WhichWayRound x = Bounds.some();
        x.judge(0);
        due("letters", x.count(7), 6);
        due("a town", x.town(), 2);
    }

    static void promise42RefusesNoSuchLearnerAndTheRowStays() {
        Bounds.refused(-1, Bounds::some, x -> x.judge(-1), x -> x.judge(3), x -> x.judge(SMALL), x -> x.judge(GREAT));
        Bounds.refused(-1, Bounds::full, x -> x.judge(5));
        Bounds.refused(-1, () -> row(new WhichWayRound(), 0), x -> x.judge(0));
        WhichWayRound x = judged(0, 1);
        x.judge(2);
        due("it stays", x.count(8), 2);
    }

    // ---- 43: clear

    static void promise43TellsHowManyItHad() {
        due("none", new WhichWayRound().clear(), 0);
        due("twelve", Bounds.full().clear(), 12);
    }

    static void promise43TheRowHasNoneThen() {
        WhichWayRound x = Bounds.full();
        x.clear();
        due("none", x.count(8), 0);
        due("had none", x.clear(), 0);
        due("nothing of it", x.judge(0), -9);
    }

    static void promise43LeavesTheLetters() {
        WhichWayRound x = Bounds.some();
        x.clear();
        due("letters", x.count(7), 6);
        due("a town", x.town(), 2);
    }

    // ---- 44: lots

    static void promise44TakesN1And20() {
        WhichWayRound x = with("051", "1", "0");
        due("1, passed", x.lots(1, 7, 0), 1);
        due("1, faults", x.lots(1, 7, 1), 5);
        due("20, passed", x.lots(20, 7, 0), 20);
        due("20, faults", x.lots(20, 7, 1), 100);
    }

    static void promise44EachLearnerHasATestEachDay() {
        WhichWayRound x = with("051", "1", "0 0 0 0 0");
        due("5 passed", x.lots(1, 7, 0), 5);
        due("100 passed", x.lots(20, 7, 0), 100);
        due("500 faults", x.lots(20, 7, 1), 500);
    }

    static void promise44EachDayIsFromNow() {
        WhichWayRound x = with("061", "1", "0");
        due("none passed", x.lots(20, 7, 0), 0);
        due("6 each day", x.lots(20, 7, 1), 120);
        x.knows(0, 0);
        due("known now", x.lots(20, 7, 1), 60);
        due("known still", x.learnerOf(0, 1), 1);
        due("no day more", x.count(5), 0);
    }

    static void promise44TakesAnySeed() {
        WhichWayRound x = with("051", "1", "0");
        for (int seed : new int[] {0, 1, -1, SMALL, GREAT}) {
            due("seed " + seed, x.lots(20, seed, 0), 20);
        }
    }

    static void promise44DrawsTheHourAndThenTheWay() {
        // From 1: 16838 and 5758, which are hour 14 and, of 5 ways, way 3; the other way round hour 22 and way 3.
        WhichWayRound x = with("001 011 021 201", "1 2 4 8 8", "0");
        due("1 at 14", x.lots(1, 1, 1), 1);
        // From -1: 15929 and 4409: hour 17 and, of 5, way 4, of 2 way 1; the other way round hour 17, too, and way 4.
        due("3 at 17", x.lots(1, -1, 1), 3);
        // From 5: 18655 and 8457: hour 7 and, of 3, way 0; the other way round hour 9 and way 1.
        due("way 0", with("041 051 051", "1 2 4", "0").lots(1, 5, 1), 4);
        // From 3498 behind 0, 21468, 9988, 22117: the third day is at 18 on way 1 of 2, the other way round at 7 on way 0.
        due("three days", with("001 011", "1 2", "0").lots(3, 0, 1), 2);
    }

    static void promise44CountsWhoPassesThatWayAtThatHour() {
        // From -1: hour 17, way 1 of 2: a ring has 6 there, at other hours 4.
        WhichWayRound x = with("001 231", "1 2", "0");
        due("not passed", x.lots(1, -1, 0), 0);
        due("its faults", x.lots(1, -1, 1), 6);
        due("passed by the second alone", with("061", "1", "0 1").lots(1, 7, 0), 1);
        due("passed by the first alone", with("061", "1", "1 0").lots(1, 7, 0), 1);
    }

    static void promise44LearnersAreByNumbers() {
        // From 0: 0, 21468, 9988, 22117: the first is on way 0 of 2, the second on way 1.
        due("0 on way 0, 5 on way 1", with("041 051", "1 2", "9 0").lots(1, 0, 1), 5);
        due("4 on way 0, 0 on way 1", with("041 051", "1 2", "0 9").lots(1, 0, 1), 4);
        // From 7: 9806, 22674, 3365, 31790: each day both, on the ways 0 and 0, then 1 and 0.
        due("two days, the second's", with("041 051", "1 2", "9 0").lots(2, 7, 1), 8);
        due("two days, the first's", with("041 051", "1 2", "0 9").lots(2, 7, 1), 9);
    }

    static void promise44Is0WithoutWays() {
        due("passed", with("001", "", "0").lots(20, 1, 0), 0);
        due("faults", with("091", "", "0").lots(20, 1, 1), 0);
    }

    static void promise44Is0WithoutLearners() {
        due("passed", with("001", "1", "").lots(20, 1, 0), 0);
        due("faults", with("091", "1", "").lots(20, 1, 1), 0);
    }

    static void promise44RefusesBelow1() {
        Bounds.refused(-4, Bounds::some, x -> x.lots(0, 1, 0), x -> x.lots(-1, 1, 1), x -> x.lots(SMALL, 1, 0));
        Bounds.refused(-4, Bounds::empty, x -> x.lots(0, 1, 0));
    }

    static void promise44RefusesAbove20() {
        Bounds.refused(-6, Bounds::some, x -> x.lots(21, 1, 0), x -> x.lots(GREAT, 1, 1));
    }

    static void promise44RefusesAnotherWhat() {
        Bounds.refused(-2, Bounds::some, x -> x.lots(1, 1, -1), x -> x.lots(20, 1, 2), x -> x.lots(1, 1, SMALL), x -> x.lots(1, 1, GREAT));
        Bounds.refused(-2, Bounds::empty, x -> x.lots(1, 1, 2));
    }

    static void promise44RefusesNAheadOfWhat() {
        Bounds.refused(-4, Bounds::some, x -> x.lots(0, 1, 2), x -> x.lots(0, 1, -1));
        Bounds.refused(-6, Bounds::some, x -> x.lots(21, 1, 2), x -> x.lots(21, 1, -1));
    }

    // ---- 45: image

    static void promise45TellsTheDay() {
        WhichWayRound x = new WhichWayRound();
        due("0", x.image(), 0);
        x.day();
        due("1", x.image(), 1);
    }

    static void promise45ChangesNothing() {
        WhichWayRound x = new WhichWayRound();
        x.sets(1, 3);
        x.feed('d');
        x.row(1);
        x.image();
        due("limit", x.count(4), 3);
        due("letters", x.count(7), 1);
        due("numbers", x.count(8), 1);
        due("can be taken back", x.count(9), 1);
    }

    // ---- 46: restore

    static void promise46TellsTheDayOfTheImage() {
        WhichWayRound x = new WhichWayRound();
        x.day();
        x.image();
        x.day();
        x.day();
        due("1", x.restore(), 1);
        due("day", x.count(5), 1);
        due("1 again", x.restore(), 1);
    }

    static void promise46RefusesWithoutAnImage() {
        Bounds.refused(-3, Bounds::empty, x -> x.restore());
        Bounds.refused(-3, () -> row(Bounds.aTown(), 1), x -> x.restore());
    }

    static void promise46IsNotRefusedOfAnImageOfNothing() {
        WhichWayRound x = new WhichWayRound();
        x.image();
        x.street(0, 0, 1);
        due("day 0", x.restore(), 0);
        due("no streets", x.count(0), 0);
        due("not refused", x.count(13), 0);
    }

    // ---- 47: count

    private static void counts(WhichWayRound x, int... dues) {
        for (int what = 0; what < dues.length; what++) {
            due("count " + what, x.count(what), dues[what]);
        }
    }

    static void promise47OfNothing() {
        counts(new WhichWayRound(), 0, 0, 0, 8, 11, 0, 0, 0, 0, 0);
    }

    static void promise47OfAllThatIsFull() {
        counts(Bounds.full(), 8, 6, 5, 16, 30, 1, 10, 96, 12, 8);
    }

    static void promise47KnownAreEachCounted() {
        WhichWayRound x = with(EIGHT_EASY, "255", "0 0 0 0 0");
        for (int l = 0; l < 5; l++) {
            x.tests(l, 0);
            due("known", x.count(6), 8 * (l + 1));
        }
    }

    static void promise47IsNoneOfAnotherWhat() {
        WhichWayRound x = Bounds.full();
        for (int what : new int[] {10, -1, 17, SMALL, GREAT}) {
            due("count " + what, x.count(what), -9);
        }
        for (int what = 11; what <= 16; what++) {
            due("that is none refused", x.count(what), 0);
        }
    }

    static void promise47CountsEachRefusal() {
        WhichWayRound x = Bounds.aTown();
        x.streetOf(6, 0);
        due("of -1", x.count(11), 1);
        x.streetOf(0, 5);
        due("of -2", x.count(12), 1);
        x.back();
        due("of -3", x.count(13), 1);
        x.sets(0, -1);
        due("of -4", x.count(14), 1);
        x.sets(0, 24);
        due("of -6", x.count(16), 1);
        due("of -5 there are none", x.count(15), 0);
        x.drawnWay(0, 24, 0);
        due("of a long, -1", x.count(11), 2);
        x.ball(0, 0, 21, 0);
        due("of a long, -6", x.count(16), 2);
    }
}
