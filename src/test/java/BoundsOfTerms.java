/** The Terms: what a town is of, what can be taken back, the image, refusals, fractions, draws. */
final class BoundsOfTerms {
    private BoundsOfTerms() {
    }

    private static void due(String call, long got, long want) {
        Bounds.due(call, got, want);
    }

    private static WhichWayRound with(String streets, String ways, String skills) {
        return Bounds.with(streets, ways, skills);
    }

    private static WhichWayRound eightStreets() {
        return with("011 011 011 011 011 011 011 011", "", "0");
    }

    // ---- STREETS, WAYS, LEARNERS

    static void termStreetsComeAs0To7() {
        WhichWayRound x = new WhichWayRound();
        for (int i = 0; i < 8; i++) {
            due("street", x.street(0, i, 1), i);
        }
        for (int i = 0; i < 8; i++) {
            due("figure of " + i, x.streetOf(i, 1), i);
        }
    }

    static void termStreetsAre8AtMost() {
        due("streets", eightStreets().count(0), 8);
        Bounds.refused(-6, BoundsOfTerms::eightStreets, x -> x.street(0, 1, 1));
    }

    static void termKindsAre0To5() {
        WhichWayRound x = with("001 101 201 301 401 501", "", "");
        for (int kind = 0; kind <= 5; kind++) {
            due("kind", x.streetOf(kind, 0), kind);
        }
        Bounds.refused(-2, BoundsOfTerms::eightStreets, y -> y.street(-1, 0, 1), y -> y.street(6, 0, 1));
    }

    static void termFigureIs0To9() {
        WhichWayRound x = with("001 091", "", "");
        due("least", x.streetOf(0, 1), 0);
        due("greatest", x.streetOf(1, 1), 9);
        Bounds.refused(-4, Bounds::some, y -> y.street(0, -1, 1));
        Bounds.refused(-6, Bounds::some, y -> y.street(0, 10, 1));
    }

    static void termMinutesAre1To9() {
        WhichWayRound x = with("001 009", "", "");
        due("least", x.streetOf(0, 2), 1);
        due("greatest", x.streetOf(1, 2), 9);
        Bounds.refused(-4, Bounds::some, y -> y.street(0, 0, 0));
        Bounds.refused(-6, Bounds::some, y -> y.street(0, 0, 10));
    }

    static void termWaysComeAs0To5() {
        WhichWayRound x = with("001 001 001", "", "");
        for (int i = 0; i < 6; i++) {
            due("way", x.way(i + 1), i);
        }
        for (int i = 0; i < 6; i++) {
            due("streets of " + i, x.wayOf(i, 8, 0), i + 1);
        }
    }

    static void termWaysAre6AtMost() {
        due("ways", Bounds.sixWays().count(1), 6);
        Bounds.refused(-6, Bounds::sixWays, x -> x.way(1));
    }

    static void termWayHasOneStreetAtLeast() {
        WhichWayRound x = with("001 001", "", "");
        due("the second alone", x.way(2), 0);
        due("the first alone", x.way(1), 1);
        Bounds.refused(-4, Bounds::some, y -> y.way(0));
    }

    static void termLearnersComeAs0To4() {
        WhichWayRound x = new WhichWayRound();
        for (int i = 0; i < 5; i++) {
            due("learner", x.learner(9 - i), i);
        }
        for (int i = 0; i < 5; i++) {
            due("skill of " + i, x.learnerOf(i, 0), 9 - i);
        }
    }

    static void termLearnersAre5AtMost() {
        due("learners", with("", "", "1 1 1 1 1").count(2), 5);
        Bounds.refused(-6, () -> with("", "", "1 1 1 1 1"), x -> x.learner(1));
    }

    static void termSkillIs0To9() {
        WhichWayRound x = with("", "", "0 9");
        due("least", x.learnerOf(0, 0), 0);
        due("greatest", x.learnerOf(1, 0), 9);
        Bounds.refused(-4, Bounds::some, y -> y.learner(-1));
        Bounds.refused(-6, Bounds::some, y -> y.learner(10));
    }

    static void termLearnerKnowsNoneAtFirst() {
        WhichWayRound x = eightStreets();
        due("none", x.learnerOf(0, 1), 0);
        x.image();
        x.learner(1);
        x.knows(1, 7);
        x.restore();
        x.learner(2);
        due("none, where another knew", x.learnerOf(1, 1), 0);
        Bounds.told(x, "l3;");
        due("none, by letters", x.learnerOf(2, 1), 0);
    }

    static void termLearnerKnowsAllAtMost() {
        WhichWayRound x = eightStreets();
        for (int s = 0; s < 8; s++) {
            x.knows(0, s);
        }
        due("all", x.learnerOf(0, 1), 255);
    }

    // ---- HOUR, LIMIT, DAY

    static void termHourIs8AtFirst() {
        due("hour", new WhichWayRound().count(3), 8);
    }

    static void termHourIs0To23() {
        WhichWayRound x = new WhichWayRound();
        x.sets(0, 23);
        due("greatest", x.count(3), 23);
        x.sets(0, 0);
        due("least", x.count(3), 0);
        Bounds.refused(-4, Bounds::some, y -> y.sets(0, -1));
        Bounds.refused(-6, Bounds::some, y -> y.sets(0, 24));
    }

    static void termLimitIs11AtFirst() {
        due("limit", new WhichWayRound().count(4), 11);
        due("11 faults are no more", with("051 051 011", "7", "0").faults(0, 0, 8, 1), 1);
        due("12 are", with("051 051 021", "7", "0").faults(0, 0, 8, 1), 0);
    }

    static void termLimitIs0To99() {
        WhichWayRound x = new WhichWayRound();
        x.sets(1, 99);
        due("greatest", x.count(4), 99);
        x.sets(1, 0);
        due("least", x.count(4), 0);
        Bounds.refused(-4, Bounds::some, y -> y.sets(1, -1));
        Bounds.refused(-6, Bounds::some, y -> y.sets(1, 100));
    }

    static void termDayIs0AtFirst() {
        due("day", new WhichWayRound().count(5), 0);
        due("the first", new WhichWayRound().day(), 1);
    }

    // ---- HARD, BALL

    private static int hard(String street, int hour) {
        WhichWayRound x = with(street, "", "");
        x.sets(0, hour);
        return x.streetOf(0, 3);
    }

    /** Hard of one kind at all hours: at 8, at 15, at 16 and 17, else. */
    private static void hards(String street, int at8, int at15, int at16, int otherwise) {
        for (int hour = 0; hour < 24; hour++) {
            int want = hour == 8 ? at8 : hour == 15 ? at15 : hour == 16 || hour == 17 ? at16 : otherwise;
            due(street + " at " + hour, hard(street, hour), want);
        }
    }

    static void termHardOfAStreetIsItsFigure() {
        hards("001", 0, 0, 0, 0);
        hards("091", 9, 9, 9, 9);
    }

    static void termHardOfAHillIs2More() {
        hards("101", 2, 2, 2, 2);
        hards("191", 11, 11, 11, 11);
    }

    static void termHardOfARingIs3MoreAt15To17Else1More() {
        hards("201", 1, 3, 3, 1);
        hards("291", 10, 12, 12, 10);
    }

    static void termHardOfASchoolIsTwiceAHillsAt8And15ElseAsAHills() {
        hards("301", 4, 4, 2, 2);
        hards("391", 22, 22, 11, 11);
    }

    static void termHardOfAYardIsHalfOfAStreetsCut() {
        hards("401", 0, 0, 0, 0);
        hards("411", 0, 0, 0, 0);
        hards("421", 1, 1, 1, 1);
        hards("491", 4, 4, 4, 4);
    }

    static void termHardOfACrownIs1MoreThanARings() {
        hards("501", 2, 4, 4, 2);
        hards("591", 11, 13, 13, 11);
    }

    static void termBallOfAStreetIs1() {
        due("ball", with("091", "", "").streetOf(0, 4), 1);
    }

    static void termBallOfAHillIsAsAStreets() {
        due("ball", with("191", "", "").streetOf(0, 4), 1);
    }

    static void termBallOfARingIs2More() {
        due("ball", with("291", "", "").streetOf(0, 4), 3);
    }

    static void termBallOfASchoolIs4() {
        due("ball", with("391", "", "").streetOf(0, 4), 4);
    }

    static void termBallOfAYardIs0() {
        due("ball", with("491", "", "").streetOf(0, 4), 0);
    }

    static void termBallOfACrownIsAsARings() {
        due("ball", with("591", "", "").streetOf(0, 4), 3);
    }

    // ---- FAULTS, PASSES, a TEST, a DAY

    private static int faults(String street, int skill, boolean isKnown) {
        WhichWayRound x = with(street, "1", Integer.toString(skill));
        if (isKnown) {
            x.knows(0, 0);
        }
        return x.faults(0, 0, 0, 0);
    }

    static void termFaultsAreHardLessSkill() {
        due("9 less 0", faults("091", 0, false), 9);
        due("9 less 1", faults("091", 1, false), 8);
        due("9 less 8", faults("091", 8, false), 1);
    }

    static void termFaultsAre0AtLeast() {
        due("as hard as skill", faults("031", 3, false), 0);
        due("less hard than skill", faults("031", 4, false), 0);
        due("much less", faults("001", 9, false), 0);
        due("much less, known", faults("001", 9, true), 0);
        due("none is taken from another street's", with("001 091", "3", "9").faults(0, 0, 0, 0), 0);
        due("nor from what is there", with("001 091", "3", "5").faults(0, 0, 0, 0), 4);
    }

    static void termFaultsAreHalfCutWhereKnown() {
        due("half of 1", faults("011", 0, true), 0);
        due("half of 2", faults("021", 0, true), 1);
        due("half of 9", faults("091", 0, true), 4);
        due("half behind the skill: of 9 less 2", faults("091", 2, true), 3);
        due("each by itself: 3 and 3 are 1 and 1", knownBoth().faults(0, 0, 0, 0), 2);
        due("in that street alone", knownOne().faults(0, 0, 0, 0), 4);
    }

    private static WhichWayRound knownBoth() {
        WhichWayRound x = with("031 031", "3", "0");
        x.knows(0, 0);
        x.knows(0, 1);
        return x;
    }

    private static WhichWayRound knownOne() {
        WhichWayRound x = with("031 031", "3", "0");
        x.knows(0, 1);
        return x;
    }

    static void termFaultsOnAWayAreOfAllItsStreets() {
        WhichWayRound x = with("011 021 011 021 011 021 011 021", "255 129 64", "0");
        due("of eight", x.faults(0, 0, 0, 0), 12);
        due("of the first and the last", x.faults(0, 1, 0, 0), 3);
        due("of one", x.faults(0, 2, 0, 0), 1);
    }

    static void termPassesWithLimitOrLess() {
        WhichWayRound x = with("041 041", "3", "0");
        x.sets(1, 9);
        due("less", x.faults(0, 0, 0, 1), 1);
        x.sets(1, 8);
        due("limit", x.faults(0, 0, 0, 1), 1);
        x.sets(1, 7);
        due("more", x.faults(0, 0, 0, 1), 0);
    }

    static void termPassesWithLimit0And0Faults() {
        WhichWayRound x = with("031", "1", "3 2");
        x.sets(1, 0);
        due("none", x.faults(0, 0, 0, 1), 1);
        due("one", x.faults(1, 0, 0, 1), 0);
    }

    static void termPassesWith5FaultsInAStreetNotWith6() {
        WhichWayRound x = with("051 061 001", "1 2 5 6", "0");
        x.sets(1, 99);
        due("5", x.faults(0, 0, 0, 1), 1);
        due("6", x.faults(0, 1, 0, 1), 0);
        due("5 and 0", x.faults(0, 2, 0, 1), 1);
        due("6 and 0", x.faults(0, 3, 0, 1), 0);
        x.knows(0, 1);
        due("6, known", x.faults(0, 1, 0, 1), 1);
    }

    static void termTestTeachesWhoPasses() {
        WhichWayRound x = Bounds.aTown();
        due("passes", x.tests(0, 2), 1);
        due("known", x.learnerOf(0, 1), 21);
        x.tests(0, 0);
        due("known besides", x.learnerOf(0, 1), 23);
    }

    static void termTestTeachesWhoDoesNotPass() {
        WhichWayRound x = Bounds.aTown();
        due("does not", x.tests(1, 3), 0);
        due("known", x.learnerOf(1, 1), 63);
        due("not another", x.learnerOf(0, 1) + x.learnerOf(2, 1), 0);
    }

    static void termTestIsByWhatWasKnownAheadOfIt() {
        WhichWayRound x = with("061", "1", "0");
        due("6, not known", x.tests(0, 0), 0);
        due("3, known", x.tests(0, 0), 1);
    }

    static void termTestIsAtHour() {
        WhichWayRound x = with("231", "1", "0 0");
        x.sets(0, 14);
        due("4 at 14", x.tests(0, 0), 1);
        x.sets(0, 15);
        due("6 at 15", x.tests(1, 0), 0);
    }

    static void termDayMakesHour8() {
        WhichWayRound x = new WhichWayRound();
        x.sets(1, 3);
        x.sets(0, 23);
        x.day();
        due("from 23", x.count(3), 8);
        x.sets(0, 0);
        x.day();
        due("from 0", x.count(3), 8);
        due("the limit stays", x.count(4), 3);
    }

    static void termDayForgetsTheGreatestKnownOfEach() {
        WhichWayRound x = with("001 001 001 001 001 001 001 001", "255", "0 0 0 0 0");
        for (int l = 0; l < 5; l++) {
            x.tests(l, 0);
        }
        for (int known = 127; known >= 1; known /= 2) {
            x.day();
            for (int l = 0; l < 5; l++) {
                due("known", x.learnerOf(l, 1), known);
            }
        }
    }

    static void termDayForgetsStreet0IfItIsTheGreatest() {
        WhichWayRound x = with("001 001", "1", "0");
        x.tests(0, 0);
        x.day();
        due("none", x.learnerOf(0, 1), 0);
    }

    static void termDayForgetsTheKnownNotTheLastStreet() {
        WhichWayRound x = with("001 001 001 001", "5", "0");
        x.tests(0, 0);
        x.day();
        due("street 2 is gone", x.learnerOf(0, 1), 1);
    }

    static void termDayForgetsNoneWhereNoneIsKnown() {
        WhichWayRound x = with("001 001", "3", "0 0");
        x.tests(1, 0);
        x.day();
        due("none", x.learnerOf(0, 1), 0);
        due("another's", x.learnerOf(1, 1), 1);
    }

    // ---- what can be TAKEN BACK

    private static void limits(WhichWayRound x, int from, int to) {
        for (int v = from; v <= to; v++) {
            x.sets(1, v);
        }
    }

    static void termTakenBackIsTheLatestFirst() {
        WhichWayRound x = new WhichWayRound();
        limits(x, 31, 33);
        x.back();
        due("before the third", x.count(4), 32);
        x.back();
        due("before the second", x.count(4), 31);
        x.back();
        due("before the first", x.count(4), 11);
    }

    static void termTakenBackAre8() {
        WhichWayRound x = new WhichWayRound();
        limits(x, 31, 38);
        due("8 can", x.count(9), 8);
        for (int left = 7; left >= 0; left--) {
            due("back", x.back(), left);
        }
        due("before the first", x.count(4), 11);
    }

    static void termTakenBackAreOlderOnesNoMore() {
        WhichWayRound x = new WhichWayRound();
        limits(x, 31, 39);
        due("8 can", x.count(9), 8);
        for (int left = 7; left >= 0; left--) {
            due("back", x.back(), left);
        }
        due("behind the first", x.count(4), 31);
        due("it can not", x.back(), -3);
        due("nothing of it", x.count(4), 31);
    }

    static void termTakenBackAreTheLatest8OfMany() {
        WhichWayRound x = new WhichWayRound();
        limits(x, 31, 75);
        for (int limit = 74; limit >= 67; limit--) {
            x.back();
            due("limit", x.count(4), limit);
        }
        due("none left", x.count(9), 0);
    }

    static void termTakenBackAndChangedAgain() {
        WhichWayRound x = new WhichWayRound();
        limits(x, 31, 38);
        for (int i = 0; i < 5; i++) {
            x.back();
        }
        limits(x, 51, 56);
        due("3 and 6 are 8", x.count(9), 8);
        int[] before = {55, 54, 53, 52, 51, 33, 32, 31};
        for (int limit : before) {
            x.back();
            due("limit", x.count(4), limit);
        }
    }

    static void termTakenBackIsATest() {
        WhichWayRound x = with("001 001", "1", "0");
        x.knows(0, 1);
        x.tests(0, 0);
        due("can be", x.count(9), 2);
        due("known", x.learnerOf(0, 1), 3);
        x.back();
        due("not known, but the other", x.learnerOf(0, 1), 2);
        due("hour", x.count(3), 8);
        due("limit", x.count(4), 11);
    }

    static void termTakenBackIsATestThatIsNotPassed() {
        WhichWayRound x = Bounds.aTown();
        due("not passed", x.tests(1, 3), 0);
        due("can be", x.count(9), 1);
        x.back();
        due("not known", x.learnerOf(1, 1), 0);
    }

    static void termTakenBackIsWhatIsKnown() {
        WhichWayRound x = Bounds.aTown();
        x.knows(2, 5);
        x.knows(2, 5);
        due("can be", x.count(9), 2);
        x.back();
        due("known again", x.learnerOf(2, 1), 32);
        x.back();
        due("not known", x.learnerOf(2, 1), 0);
    }

    static void termTakenBackIsAnHour() {
        WhichWayRound x = new WhichWayRound();
        x.sets(0, 0);
        x.sets(0, 23);
        due("can be", x.count(9), 2);
        x.back();
        due("0", x.count(3), 0);
        x.back();
        due("8", x.count(3), 8);
    }

    static void termTakenBackIsALimit() {
        WhichWayRound x = new WhichWayRound();
        x.sets(1, 0);
        x.sets(1, 99);
        due("can be", x.count(9), 2);
        x.back();
        due("0", x.count(4), 0);
        x.back();
        due("11", x.count(4), 11);
    }

    static void termTakenBackIsADay() {
        WhichWayRound x = with("001 001", "3", "0 0 0 0 0");
        x.day();
        x.day();
        x.tests(0, 0);
        x.tests(4, 0);
        x.sets(0, 23);
        x.day();
        due("can be", x.count(9), 6);
        x.back();
        due("day", x.count(5), 2);
        due("hour", x.count(3), 23);
        due("known of the first", x.learnerOf(0, 1), 3);
        due("known of the last", x.learnerOf(4, 1), 3);
        for (int left = 4; left >= 1; left--) {
            due("back", x.back(), left);
        }
        due("day", x.count(5), 1);
        x.back();
        due("day", x.count(5), 0);
    }

    static void termTakenBackIsWhatEachKnew() {
        WhichWayRound x = with("001 001 001 001 001", "", "0 0 0 0 0");
        for (int l = 0; l < 5; l++) {
            x.knows(l, l);
        }
        x.day();
        due("all forgotten", x.count(6), 0);
        x.back();
        for (int l = 0; l < 5; l++) {
            due("known again", x.learnerOf(l, 1), 1 << l);
        }
    }

    static void termTakenBackCountsWhatChangesNothing() {
        WhichWayRound x = with("001", "1", "0");
        x.sets(0, 8);
        due("an hour as it was", x.count(9), 1);
        x.sets(1, 11);
        due("a limit as it was", x.count(9), 2);
        x.tests(0, 0);
        x.tests(0, 0);
        due("a test that teaches nothing", x.count(9), 4);
        due("back", x.back(), 3);
        due("as it was", x.learnerOf(0, 1), 1);
        due("back", x.back(), 2);
        due("not known", x.learnerOf(0, 1), 0);
        due("back", x.back(), 1);
        due("back", x.back(), 0);
    }

    static void termTakenBackCountsNoRefused() {
        Bounds.refused(-1, Bounds::some, x -> x.tests(9, 0), x -> x.tests(0, 9), x -> x.knows(9, 0), x -> x.knows(0, 9));
        Bounds.refused(-2, Bounds::some, x -> x.sets(2, 0));
        Bounds.refused(-4, Bounds::some, x -> x.sets(0, -1));
        Bounds.refused(-6, Bounds::some, x -> x.sets(0, 24));
        Bounds.refused(-6, Bounds::full, x -> x.sets(1, 100));
        Bounds.refused(-1, Bounds::full, x -> x.tests(5, 0));
    }

    private static WhichWayRound oneChange() {
        WhichWayRound x = with("001", "1", "0");
        x.image();
        x.sets(1, 5);
        due("one can be taken back", x.count(9), 1);
        return x;
    }

    private static void leavesNone(WhichWayRound x) {
        due("none can be taken back", x.count(9), 0);
        due("back", x.back(), -3);
    }

    static void termTakenBackIsNoneBehindAStreet() {
        WhichWayRound x = oneChange();
        x.street(0, 0, 1);
        leavesNone(x);
        due("the limit stays", x.count(4), 5);
    }

    static void termTakenBackIsNoneBehindStreet0() {
        WhichWayRound x = new WhichWayRound();
        x.sets(1, 5);
        x.street(0, 0, 1);
        leavesNone(x);
    }

    static void termTakenBackIsNoneBehindAWay() {
        WhichWayRound x = oneChange();
        x.way(1);
        leavesNone(x);
    }

    static void termTakenBackIsNoneBehindWay0() {
        WhichWayRound x = with("001", "", "");
        x.sets(1, 5);
        x.way(1);
        leavesNone(x);
    }

    static void termTakenBackIsNoneBehindALearner() {
        WhichWayRound x = oneChange();
        x.learner(0);
        leavesNone(x);
    }

    static void termTakenBackIsNoneBehindLearner0() {
        WhichWayRound x = new WhichWayRound();
        x.sets(1, 5);
        x.learner(0);
        leavesNone(x);
    }

    static void termTakenBackIsNoneBehindATown() {
        WhichWayRound x = oneChange();
        due("a town", Bounds.told(x, "h09;"), 1);
        leavesNone(x);
    }

    static void termTakenBackStaysBehindATownWithFault() {
        WhichWayRound x = oneChange();
        due("kind 1", Bounds.told(x, "h09"), -1003);
        due("kind 2", Bounds.told(x, "h99;"), -2000);
        due("nothing told", x.town(), -1000);
        due("one still", x.count(9), 1);
        due("back", x.back(), 0);
        due("limit", x.count(4), 11);
    }

    static void termTakenBackIsNoneBehindRestore() {
        WhichWayRound x = oneChange();
        x.restore();
        leavesNone(x);
    }

    static void termTakenBackStaysWhereTheyAreRefused() {
        Bounds.refused(-6, Bounds::full, x -> x.street(0, 0, 1), x -> x.way(1), x -> x.learner(0));
        Bounds.refused(-4, Bounds::some, x -> x.street(0, 0, 0), x -> x.way(0), x -> x.learner(-1));
        Bounds.refused(-2, Bounds::some, x -> x.street(6, 0, 1));
        Bounds.refused(-3, BoundsOfTerms::changedWithoutImage, x -> x.restore());
    }

    private static WhichWayRound changedWithoutImage() {
        WhichWayRound x = Bounds.aTown();
        x.sets(1, 5);
        return x;
    }

    static void termTakenBackStaysBehindAllElse() {
        WhichWayRound x = oneChange();
        x.image();
        x.feed('d');
        x.row(1);
        x.judge(0);
        x.row(1);
        x.clear();
        x.lots(20, 1, 0);
        x.career(0, 60);
        x.queue(0, -1);
        due("one still", x.count(9), 1);
        x.back();
        due("limit", x.count(4), 11);
        due("it is none itself", x.count(9), 0);
    }

    static void termTakenBackLeavesLettersRowAndImage() {
        WhichWayRound x = oneChange();
        Bounds.feed(x, "h1");
        Bounds.row(x, 0, 1);
        x.back();
        due("letters", x.count(7), 2);
        due("numbers", x.count(8), 2);
        x.sets(1, 7);
        x.image();
        x.sets(1, 8);
        x.back();
        x.sets(1, 9);
        x.sets(1, 10);
        x.back();
        x.restore();
        due("limit of the image", x.count(4), 7);
        Bounds.feed(x, "1;");
        due("as they were told", x.town(), 1);
        due("hour", x.count(3), 11);
    }

    // ---- THE IMAGE

    static void termImageHoldsStreets() {
        WhichWayRound x = with("239", "", "");
        x.image();
        x.street(0, 0, 1);
        x.restore();
        due("streets", x.count(0), 1);
        due("kind", x.streetOf(0, 0), 2);
        due("figure", x.streetOf(0, 1), 3);
        due("minutes", x.streetOf(0, 2), 9);
        due("the next number", x.street(1, 1, 1), 1);
    }

    static void termImageHoldsAllWhereItIsFull() {
        WhichWayRound x = Bounds.full();
        x.image();
        x.day();
        x.restore();
        Bounds.same("restored", x, imageOfFull());
    }

    /** Full, but for what restore leaves none of. */
    private static WhichWayRound imageOfFull() {
        WhichWayRound x = Bounds.full();
        x.image();
        x.restore();
        return x;
    }

    static void termImageHoldsWays() {
        WhichWayRound x = with("001 001", "2", "");
        x.image();
        x.way(1);
        x.restore();
        due("ways", x.count(1), 1);
        due("streets of it", x.wayOf(0, 8, 0), 2);
    }

    static void termImageHoldsLearners() {
        WhichWayRound x = with("001 001", "3", "7");
        x.knows(0, 1);
        x.image();
        x.learner(1);
        x.tests(0, 0);
        x.restore();
        due("learners", x.count(2), 1);
        due("skill", x.learnerOf(0, 0), 7);
        due("known", x.learnerOf(0, 1), 2);
    }

    static void termImageHoldsHourLimitAndDay() {
        WhichWayRound x = new WhichWayRound();
        x.day();
        x.sets(0, 0);
        x.sets(1, 99);
        x.image();
        x.sets(1, 0);
        x.day();
        x.day();
        x.restore();
        due("hour", x.count(3), 0);
        due("limit", x.count(4), 99);
        due("day", x.count(5), 1);
    }

    static void termImageOfNothing() {
        WhichWayRound x = new WhichWayRound();
        due("taken", x.image(), 0);
        Bounds.told(x, "s011;w001;l1;k00;d;h01;m01;");
        due("restored", x.restore(), 0);
        Bounds.same("nothing", x, emptyWithImage());
    }

    private static WhichWayRound emptyWithImage() {
        WhichWayRound x = new WhichWayRound();
        x.image();
        return x;
    }

    static void termImageIsNotOfLetters() {
        WhichWayRound x = new WhichWayRound();
        Bounds.feed(x, "m");
        x.image();
        Bounds.feed(x, "33;");
        x.restore();
        due("letters", x.count(7), 4);
        due("as they were", x.town(), 1);
        due("limit", x.count(4), 33);
    }

    static void termImageIsNotOfTheRow() {
        WhichWayRound x = with("011 021", "", "0");
        x.row(1);
        x.image();
        x.row(2);
        x.restore();
        due("numbers", x.count(8), 2);
        due("as they were", x.judge(0), -9);
        x.row(1);
        x.image();
        x.clear();
        x.restore();
        due("none come again", x.count(8), 0);
    }

    static void termImageIsNotOfRefusals() {
        WhichWayRound x = new WhichWayRound();
        x.image();
        x.streetOf(0, 0);
        x.sets(2, 0);
        x.back();
        x.sets(0, -1);
        x.sets(0, 24);
        x.restore();
        for (int what : new int[] {11, 12, 13, 14, 16}) {
            due("refusals " + what, x.count(what), 1);
        }
    }

    static void termImageIsNotOfItself() {
        WhichWayRound x = new WhichWayRound();
        x.sets(1, 1);
        x.image();
        x.sets(1, 2);
        due("restored", x.restore(), 0);
        x.sets(1, 3);
        due("restored again", x.restore(), 0);
        due("limit", x.count(4), 1);
    }

    static void termImageIsOfTheTimeItIsTaken() {
        WhichWayRound x = with("001 001", "3", "0");
        x.image();
        x.tests(0, 0);
        x.restore();
        due("not of what came behind", x.learnerOf(0, 1), 0);
        x.knows(0, 1);
        x.restore();
        due("nor of what came behind restore", x.learnerOf(0, 1), 0);
        x.knows(0, 0);
        x.image();
        x.knows(0, 0);
        x.restore();
        due("the later one", x.learnerOf(0, 1), 1);
    }

    // ---- what is asked

    /** Some, with a row that tells who passed. */
    private static WhichWayRound someExamined() {
        WhichWayRound x = Bounds.some();
        Bounds.row(x, 1, 0, 2);
        return x;
    }

    /** Each is asked twice, and answers alike. */
    private static void asked(Bounds.Start start, Bounds.Call... calls) {
        for (int i = 0; i < calls.length; i++) {
            WhichWayRound x = start.made();
            WhichWayRound twin = start.made();
            long first = calls[i].on(x);
            due("call " + i + ", again", calls[i].on(x), first);
            for (int what = 11; what <= 16; what++) {
                due("count " + what + " by call " + i, x.count(what), twin.count(what));
            }
            Bounds.same("call " + i, x, twin);
        }
    }

    private static void allAsked(Bounds.Start start) {
        asked(start, x -> x.streetOf(1, 0), x -> x.streetOf(1, 1), x -> x.streetOf(1, 2), x -> x.streetOf(1, 3),
            x -> x.streetOf(1, 4), x -> x.learnerOf(1, 0), x -> x.learnerOf(1, 1), x -> x.wayOf(1, 15, 0),
            x -> x.wayOf(1, 15, 1), x -> x.wayOf(1, 15, 2), x -> x.wayOf(1, 15, 3), x -> x.faults(1, 1, 15, 0),
            x -> x.faults(1, 1, 15, 1), x -> x.faults(1, 1, 15, 2), x -> x.bestHour(1, 1, 0), x -> x.bestHour(1, 1, 1),
            x -> x.easiest(1, 15, 0), x -> x.easiest(1, 15, 1), x -> x.learn(1, 1, 15), x -> x.learn(1, -1, 9),
            x -> x.drawnWay(1, 15, 0), x -> x.drawnWay(1, 15, 1), x -> x.alike(1, 2), x -> x.mostAlike(),
            x -> x.fair(15, 0), x -> x.fair(15, 2), x -> x.moped(2, 0), x -> x.moped(2, 1), x -> x.made(1, 9, 20),
            x -> x.unlike(), x -> x.queue(1, -1), x -> x.queue(1, 0), x -> x.queue(1, 9), x -> x.lessons(1, 3, 15),
            x -> x.ball(1, 1, 3, 0), x -> x.ball(1, 1, 3, 1), x -> x.crowded(0), x -> x.crowded(1), x -> x.crowded(2),
            x -> x.rank(1, 0), x -> x.rank(1, 9), x -> x.skillWanted(1, 3, 15), x -> x.limitWanted(), x -> x.rush(1, 0),
            x -> x.rush(1, 1), x -> x.newcomer(0), x -> x.newcomer(9), x -> x.gain(1, 0), x -> x.gain(1, -1),
            x -> x.career(1, 60), x -> x.toughest(1), x -> x.equal(), x -> x.longest(0), x -> x.longest(1),
            x -> x.lots(20, 1, 0), x -> x.lots(20, 1, 1), x -> x.count(3), x -> x.count(99));
    }

    static void termAskingChangesNothing() {
        allAsked(BoundsOfTerms::someExamined);
        allAsked(Bounds::full);
        asked(BoundsOfTerms::someExamined, x -> x.strict(3, 0), x -> x.strict(3, 1), x -> x.strict(3, 2));
    }

    // ---- REFUSALS

    static void termRefusalsAreCountedEachByItself() {
        WhichWayRound x = new WhichWayRound();
        int[] times = {4, 3, 2, 5, 0, 1};
        for (int i = 0; i < times[0]; i++) {
            due("-1", x.streetOf(0, 0), -1);
        }
        for (int i = 0; i < times[1]; i++) {
            due("-2", x.sets(2, 0), -2);
        }
        for (int i = 0; i < times[2]; i++) {
            due("-3", x.back(), -3);
        }
        for (int i = 0; i < times[3]; i++) {
            due("-4", x.way(0), -4);
        }
        due("-6", x.way(1), -6);
        for (int i = 0; i < times.length; i++) {
            due("count " + (11 + i), x.count(11 + i), times[i]);
        }
    }

    static void termRefusalsOfLongsAre4000000000000000000LessThem() {
        WhichWayRound x = with("", "", "0");
        due("-1", x.drawnWay(1, 0, 0), 4000000000000000001L);
        due("-2", x.drawnWay(0, 0, 2), 4000000000000000002L);
        WhichWayRound y = Bounds.sixWays();
        due("-4", y.ball(0, 0, 1, 0), 4000000000000000004L);
        due("-6", y.ball(0, 0, 21, 0), 4000000000000000006L);
    }

    static void termRefusalsLeaveNoneThatIsNotThere() {
        // -9 is an answer and no refusal.
        WhichWayRound x = with("", "", "0");
        x.mostAlike();
        x.unlike();
        x.easiest(0, 0, 0);
        x.crowded(0);
        x.longest(0);
        x.fair(0, 1);
        x.gain(0, -1);
        x.count(99);
        for (int what = 11; what <= 16; what++) {
            due("count " + what, x.count(what), 0);
        }
    }

    // ---- fractions

    static void termFractionsAreInLowestTerms() {
        WhichWayRound x = Bounds.sixWays();
        int[][] dues = {{1, 6}, {1, 3}, {1, 2}, {2, 3}, {5, 6}, {1, 1}};
        for (int limit = 0; limit < 6; limit++) {
            x.sets(1, limit);
            due("above, limit " + limit, x.drawnWay(0, 0, 0), dues[limit][0]);
            due("below, limit " + limit, x.drawnWay(0, 0, 1), dues[limit][1]);
        }
    }

    static void termFractionOf0Is0Over1() {
        WhichWayRound x = with("061", "1 1 1", "0");
        due("drawn, above", x.drawnWay(0, 0, 0), 0);
        due("drawn, below", x.drawnWay(0, 0, 1), 1);
        due("ball, above", x.ball(0, 0, 20, 0), 0);
        due("ball, below", x.ball(0, 0, 20, 1), 1);
    }

    // ---- DRAWS

    /** What the second draw is, modulo 6: the way of one learner's only test has as many faults. */
    private static int secondDraw(int seed) {
        return Bounds.sixWays().lots(1, seed, 1);
    }

    static void termDrawsWrapAround() {
        // The draws of 1 are 16838 and 5758, of the greatest int 15929 and 4409, of 5 18655 and 8457.
        due("1", secondDraw(1), 5758 % 6);
        due("greatest", secondDraw(Bounds.GREAT), 4409 % 6);
        due("5", secondDraw(5), 8457 % 6);
        due("12345678", secondDraw(12345678), second(12345678) % 6);
        due("-87654321", secondDraw(-87654321), second(-87654321) % 6);
    }

    private static int second(int seed) {
        long z = seed;
        for (int i = 0; i < 2; i++) {
            z = Math.floorMod(z * 1103515245L + 12345L, 1L << 32);
        }
        return (int) (z % (1L << 31) / 65536);
    }

    static void termDrawsAreWithoutTheSignsBit() {
        // Behind 0 come 12345 and then a number with the sign's bit: 0 and 21468.
        due("0", secondDraw(0), 21468 % 6);
        // The sign's bit of the seed itself changes nothing else.
        due("least", secondDraw(Bounds.SMALL), 21468 % 6);
        due("-1", secondDraw(-1), 4409 % 6);
        // The first of -1 has it, too: 15929 modulo 24 is 17, where a ring has 3; of the least int 0, where it has 1.
        WhichWayRound x = with("201", "1", "0");
        due("hour 17", x.lots(1, -1, 1), 3);
        due("hour 0", x.lots(1, Bounds.SMALL, 1), 1);
    }

    static void termDrawsGoOnFromTestToTest() {
        // From 0: 0, 21468; 9988, 22117; 3498, 16927; 16045, 19741: on the ways 0, 1, 1, 1.
        int[] all = {0, 1, 2, 3};
        for (int n = 1; n <= 4; n++) {
            due(n + " days", Bounds.sixWays().lots(n, 0, 1), all[n - 1]);
        }
    }

    static void termDrawBelow1IsAlways0() {
        WhichWayRound x = with("041", "1", "0");
        for (int seed = -3; seed <= 3; seed++) {
            due("seed " + seed, x.lots(1, seed, 1), 4);
        }
    }
}
