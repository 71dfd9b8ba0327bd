/** Promises 1 to 25: each sentence that names a boundary case, those of part II that they tell among them. */
final class BoundsOfPromises1To25 {
    private static final int SMALL = Bounds.SMALL;
    private static final int GREAT = Bounds.GREAT;
    private static final String EIGHT_EASY = "011 011 011 011 011 011 011 011";

    private BoundsOfPromises1To25() {
    }

    private static void due(String call, long got, long want) {
        Bounds.due(call, got, want);
    }

    private static WhichWayRound with(String streets, String ways, String skills) {
        return Bounds.with(streets, ways, skills);
    }

    // ---- 1: a new object

    static void promise1NoStreets() {
        due("streets", new WhichWayRound().count(0), 0);
        Bounds.refused(-1, Bounds::empty, x -> x.streetOf(0, 0));
    }

    static void promise1NoWays() {
        due("ways", new WhichWayRound().count(1), 0);
        Bounds.refused(-1, Bounds::empty, x -> x.wayOf(0, 8, 0));
    }

    static void promise1NoLearners() {
        due("learners", new WhichWayRound().count(2), 0);
        Bounds.refused(-1, Bounds::empty, x -> x.learnerOf(0, 0));
    }

    static void promise1NothingElse() {
        WhichWayRound x = new WhichWayRound();
        int[] counts = {0, 0, 0, 8, 11, 0, 0, 0, 0, 0, -9, 0, 0, 0, 0, 0, 0};
        for (int what = 0; what < counts.length; what++) {
            due("count " + what, x.count(what), counts[what]);
        }
    }

    static void promise1WhatIsAskedOfNothing() {
        WhichWayRound x = new WhichWayRound();
        int[] none = {x.mostAlike(), x.unlike(), x.fair(0, 1), x.made(0, 72, 0), x.crowded(0), x.longest(0), x.longest(1)};
        for (int i = 0; i < none.length; i++) {
            due("none " + i, none[i], -9);
        }
        int[] nothing = {x.fair(0, 0), x.moped(60, 0), x.moped(60, 1), x.crowded(1), x.crowded(2), x.limitWanted(),
            x.newcomer(0), x.equal(), x.lots(1, 0, 0), x.lots(1, 0, 1), x.clear()};
        for (int i = 0; i < nothing.length; i++) {
            due("nothing " + i, nothing[i], 0);
        }
    }

    static void promise1IsUsedFor512Calls() {
        WhichWayRound x = new WhichWayRound();
        for (int call = 1; call <= 512; call++) {
            due("call " + call, x.day(), call);
        }
    }

    static void promise1IsApartFromAnother() {
        WhichWayRound x = Bounds.full();
        Bounds.same("new beside another", new WhichWayRound(), Bounds.empty());
        due("another beside a new one", x.count(0), 8);
    }

    // ---- 2: feed

    static void promise2TellsHowManyThereAre() {
        WhichWayRound x = new WhichWayRound();
        for (int i = 1; i <= 96; i++) {
            due("letter", x.feed('d'), i);
        }
        due("letters", x.count(7), 96);
    }

    static void promise2TakesLetter0() {
        WhichWayRound x = new WhichWayRound();
        due("0", x.feed(0), 1);
        due("letters", x.count(7), 1);
    }

    static void promise2TakesLetter255() {
        WhichWayRound x = new WhichWayRound();
        due("255", x.feed(255), 1);
        due("letters", x.count(7), 1);
    }

    static void promise2RefusesBelow0() {
        Bounds.refused(-4, Bounds::some, x -> x.feed(-1), x -> x.feed(SMALL));
    }

    static void promise2RefusesAbove255() {
        Bounds.refused(-6, Bounds::some, x -> x.feed(256), x -> x.feed(GREAT), x -> x.feed('d' + 256));
    }

    static void promise2Refuses97() {
        Bounds.refused(-6, Bounds::full, x -> x.feed('d'), x -> x.feed(0), x -> x.feed(255), x -> x.feed(256));
    }

    static void promise2RefusesBelowAheadOfNoRoom() {
        Bounds.refused(-4, Bounds::full, x -> x.feed(-1));
    }

    static void promise2BeginsAnewBehindATown() {
        WhichWayRound x = new WhichWayRound();
        Bounds.told(x, "d;".repeat(48));
        due("the first", x.feed('l'), 1);
        due("the second", x.feed('9'), 2);
        due("the third", x.feed(';'), 3);
        due("nothing of the old ones", x.town(), 1);
    }

    // ---- 3: town

    static void promise3TellsHowManyStatements() {
        due("one", Bounds.told(new WhichWayRound(), "s001;"), 1);
        due("two", Bounds.told(new WhichWayRound(), "l0;d;"), 2);
        due("48", Bounds.told(new WhichWayRound(), "d;".repeat(48)), 48);
        due("24", Bounds.told(new WhichWayRound(), "m00;".repeat(24)), 24);
    }

    static void promise3LettersAreNoMore() {
        WhichWayRound x = new WhichWayRound();
        Bounds.told(x, "d;d;");
        due("letters", x.count(7), 0);
        due("nothing is told", x.town(), -1000);
        due("days", x.count(5), 2);
    }

    static void promise3LettersAreNoMoreWithAFaultOfKind1() {
        WhichWayRound x = new WhichWayRound();
        due("fault", Bounds.told(x, "d;d"), -1003);
        due("letters", x.count(7), 0);
        due("nothing is told", x.town(), -1000);
    }

    static void promise3LettersAreNoMoreWithAFaultOfKind2() {
        WhichWayRound x = new WhichWayRound();
        due("fault", Bounds.told(x, "d;w000;"), -2002);
        due("letters", x.count(7), 0);
        due("nothing is told", x.town(), -1000);
    }

    static void promise3LeavesTheRowTheImageAndRefusals() {
        WhichWayRound x = Bounds.changed();
        x.way(0);
        due("a town", Bounds.told(x, "h03;m04;"), 2);
        due("numbers", x.count(8), 6);
        due("refusals", x.count(14), 1);
        due("a fault", Bounds.told(x, "h24;"), -2000);
        due("another", Bounds.told(x, "h2"), -1002);
        due("numbers", x.count(8), 6);
        due("refusals", x.count(14), 1);
        x.restore();
        due("hour of the image", x.count(3), 8);
        due("limit of the image", x.count(4), 11);
    }

    static void promise3CountsNothing() {
        WhichWayRound x = new WhichWayRound();
        String[] faults = {"", "x", "d", "s601;", "s000;", "w000;", "w001;", "k00;", "h24;", "t00;", "l0;l0;l0;l0;l0;l0;"};
        for (String text : faults) {
            due(text + " is a fault", Bounds.told(x, text) < 0 ? 1 : 0, 1);
        }
        for (int what = 11; what <= 16; what++) {
            due("count " + what, x.count(what), 0);
        }
    }

    // ---- 4: streetOf

    static void promise4TellsAllOfTheFirstAndTheLast() {
        WhichWayRound x = with("239 001 001 001 001 001 001 391", "", "");
        int[][] dues = {{0, 2, 3, 9, 4, 3}, {7, 3, 9, 1, 22, 4}};
        for (int[] street : dues) {
            for (int what = 0; what <= 4; what++) {
                due("street " + street[0] + " what " + what, x.streetOf(street[0], what), street[what + 1]);
            }
        }
    }

    static void promise4HardIsAtHour() {
        WhichWayRound x = with("201", "", "");
        int[][] dues = {{0, 1}, {14, 1}, {15, 3}, {17, 3}, {18, 1}, {23, 1}};
        for (int[] each : dues) {
            x.sets(0, each[0]);
            due("at " + each[0], x.streetOf(0, 3), each[1]);
        }
    }

    static void promise4RefusesNoSuchStreet() {
        Bounds.refused(-1, Bounds::some, x -> x.streetOf(-1, 0), x -> x.streetOf(6, 0), x -> x.streetOf(SMALL, 0),
            x -> x.streetOf(GREAT, 0));
        Bounds.refused(-1, Bounds::full, x -> x.streetOf(8, 0));
        Bounds.refused(-1, Bounds::empty, x -> x.streetOf(0, 0));
    }

    static void promise4RefusesAnotherWhat() {
        Bounds.refused(-2, Bounds::some, x -> x.streetOf(0, -1), x -> x.streetOf(5, 5), x -> x.streetOf(0, SMALL),
            x -> x.streetOf(0, GREAT));
    }

    static void promise4RefusesStreetAheadOfWhat() {
        Bounds.refused(-1, Bounds::some, x -> x.streetOf(-1, -1), x -> x.streetOf(6, 5));
    }

    // ---- 5: learnerOf

    static void promise5TellsAllOfTheFirstAndTheLast() {
        WhichWayRound x = with(EIGHT_EASY, "255", "0 1 2 3 9");
        x.knows(0, 0);
        x.tests(4, 0);
        due("first skill", x.learnerOf(0, 0), 0);
        due("first known", x.learnerOf(0, 1), 1);
        due("last skill", x.learnerOf(4, 0), 9);
        due("last known", x.learnerOf(4, 1), 255);
        due("none known", x.learnerOf(2, 1), 0);
    }

    static void promise5RefusesNoSuchLearner() {
        Bounds.refused(-1, Bounds::some, x -> x.learnerOf(-1, 0), x -> x.learnerOf(3, 0), x -> x.learnerOf(SMALL, 1),
            x -> x.learnerOf(GREAT, 1));
        Bounds.refused(-1, Bounds::full, x -> x.learnerOf(5, 0));
        Bounds.refused(-1, Bounds::empty, x -> x.learnerOf(0, 0));
    }

    static void promise5RefusesAnotherWhat() {
        Bounds.refused(-2, Bounds::some, x -> x.learnerOf(0, -1), x -> x.learnerOf(2, 2), x -> x.learnerOf(0, SMALL),
            x -> x.learnerOf(0, GREAT));
    }

    static void promise5RefusesLearnerAheadOfWhat() {
        Bounds.refused(-1, Bounds::some, x -> x.learnerOf(-1, -1), x -> x.learnerOf(3, 2));
    }

    // ---- 6: street

    static void promise6TellsItsNumber() {
        WhichWayRound x = new WhichWayRound();
        for (int i = 0; i < 8; i++) {
            due("number", x.street(i % 6, 9 - i, i + 1), i);
        }
        due("streets", x.count(0), 8);
    }

    static void promise6TakesKinds0And5() {
        WhichWayRound x = new WhichWayRound();
        due("kind 0", x.street(0, 1, 1), 0);
        due("kind 5", x.street(5, 1, 1), 1);
    }

    static void promise6RefusesAnotherKind() {
        Bounds.refused(-2, Bounds::some, x -> x.street(-1, 0, 1), x -> x.street(6, 0, 1), x -> x.street(SMALL, 0, 1),
            x -> x.street(GREAT, 0, 1));
    }

    static void promise6TakesFigure0() {
        WhichWayRound x = with("", "", "");
        due("0", x.street(0, 0, 5), 0);
        due("figure", x.streetOf(0, 1), 0);
    }

    static void promise6RefusesFigureBelow0() {
        Bounds.refused(-4, Bounds::some, x -> x.street(0, -1, 1), x -> x.street(5, SMALL, 9));
    }

    static void promise6TakesMinutes1() {
        WhichWayRound x = with("", "", "");
        due("1", x.street(0, 5, 1), 0);
        due("minutes", x.streetOf(0, 2), 1);
    }

    static void promise6RefusesMinutesBelow1() {
        Bounds.refused(-4, Bounds::some, x -> x.street(0, 0, 0), x -> x.street(0, 0, -1), x -> x.street(5, 9, SMALL));
    }

    static void promise6TakesFigure9() {
        WhichWayRound x = with("", "", "");
        due("9", x.street(0, 9, 5), 0);
        due("figure", x.streetOf(0, 1), 9);
    }

    static void promise6RefusesFigureAbove9() {
        Bounds.refused(-6, Bounds::some, x -> x.street(0, 10, 1), x -> x.street(5, GREAT, 9));
    }

    static void promise6TakesMinutes9() {
        WhichWayRound x = with("", "", "");
        due("9", x.street(0, 5, 9), 0);
        due("minutes", x.streetOf(0, 2), 9);
    }

    static void promise6RefusesMinutesAbove9() {
        Bounds.refused(-6, Bounds::some, x -> x.street(0, 0, 10), x -> x.street(5, 9, GREAT));
    }

    static void promise6RefusesTheNinthStreet() {
        Bounds.refused(-6, Bounds::full, x -> x.street(0, 0, 1), x -> x.street(5, 9, 9));
    }

    static void promise6RefusesKindAheadOfAll() {
        Bounds.refused(-2, Bounds::some, x -> x.street(6, -1, 1), x -> x.street(-1, 0, 0), x -> x.street(6, 10, 10));
        Bounds.refused(-2, Bounds::full, x -> x.street(6, 0, 1));
    }

    static void promise6RefusesBelowAheadOfAbove() {
        Bounds.refused(-4, Bounds::some, x -> x.street(0, -1, 10), x -> x.street(0, 10, 0));
        Bounds.refused(-4, Bounds::full, x -> x.street(0, -1, 1), x -> x.street(0, 0, 0));
    }

    // ---- 7: way

    static void promise7TellsItsNumber() {
        WhichWayRound x = with("001", "", "");
        for (int i = 0; i < 6; i++) {
            due("number", x.way(1), i);
        }
        due("ways", x.count(1), 6);
    }

    static void promise7TakesOneStreetAndAll() {
        WhichWayRound x = with(EIGHT_EASY, "", "");
        due("one", x.way(1), 0);
        due("the last", x.way(128), 1);
        due("all", x.way(255), 2);
        due("streets of it", x.wayOf(2, 0, 0), 255);
    }

    static void promise7RefusesBelow1() {
        Bounds.refused(-4, Bounds::some, x -> x.way(0), x -> x.way(-1), x -> x.way(SMALL));
        Bounds.refused(-4, Bounds::empty, x -> x.way(0));
    }

    static void promise7RefusesBitsOfNoStreet() {
        Bounds.refused(-6, Bounds::some, x -> x.way(64), x -> x.way(65), x -> x.way(127), x -> x.way(256), x -> x.way(GREAT));
        Bounds.refused(-6, () -> with(EIGHT_EASY, "", ""), x -> x.way(256), x -> x.way(511), x -> x.way(1 << 30));
        Bounds.refused(-6, Bounds::empty, x -> x.way(1));
    }

    static void promise7RefusesTheSeventhWay() {
        Bounds.refused(-6, Bounds::full, x -> x.way(1), x -> x.way(255));
    }

    static void promise7RefusesBelowAheadOfNoRoom() {
        Bounds.refused(-4, Bounds::full, x -> x.way(0), x -> x.way(SMALL));
    }

    // ---- 8: learner

    static void promise8TellsTheNumber() {
        WhichWayRound x = new WhichWayRound();
        for (int i = 0; i < 5; i++) {
            due("number", x.learner(i), i);
        }
        due("learners", x.count(2), 5);
    }

    static void promise8TakesSkills0And9() {
        WhichWayRound x = new WhichWayRound();
        due("0", x.learner(0), 0);
        due("9", x.learner(9), 1);
        due("skill 0", x.learnerOf(0, 0), 0);
        due("skill 9", x.learnerOf(1, 0), 9);
    }

    static void promise8RefusesBelow0() {
        Bounds.refused(-4, Bounds::some, x -> x.learner(-1), x -> x.learner(SMALL));
    }

    static void promise8RefusesAbove9() {
        Bounds.refused(-6, Bounds::some, x -> x.learner(10), x -> x.learner(GREAT));
    }

    static void promise8RefusesTheSixthLearner() {
        Bounds.refused(-6, Bounds::full, x -> x.learner(0), x -> x.learner(9));
    }

    static void promise8RefusesBelowAheadOfNoRoom() {
        Bounds.refused(-4, Bounds::full, x -> x.learner(-1));
    }

    // ---- 9: tests

    static void promise9Tells1WhoPassesAnd0WhoDoesNot() {
        WhichWayRound x = Bounds.aTown();
        due("12 faults", x.tests(1, 0), 0);
        due("2 faults", x.tests(0, 2), 1);
    }

    static void promise9TakesTheLastLearnerAndTheLastWay() {
        WhichWayRound x = with("001 001", "1 1 1 1 1 2", "0 0 0 0 0");
        due("passes", x.tests(4, 5), 1);
        due("known", x.learnerOf(4, 1), 2);
    }

    static void promise9IsOfTheLearnerAndTheWayTold() {
        WhichWayRound x = with("061 051", "1 2", "0 1");
        due("5 on way 1", x.tests(0, 1), 1);
        due("6 on way 0", x.tests(0, 0), 0);
        due("6 less 1", x.tests(1, 0), 1);
    }

    static void promise9RefusesNoSuchLearner() {
        Bounds.refused(-1, Bounds::some, x -> x.tests(-1, 0), x -> x.tests(3, 0), x -> x.tests(SMALL, 3), x -> x.tests(GREAT, 3));
        Bounds.refused(-1, Bounds::full, x -> x.tests(5, 5));
        Bounds.refused(-1, () -> with("001", "1", ""), x -> x.tests(0, 0));
    }

    static void promise9RefusesNoSuchWay() {
        Bounds.refused(-1, Bounds::some, x -> x.tests(0, -1), x -> x.tests(0, 4), x -> x.tests(2, SMALL), x -> x.tests(2, GREAT));
        Bounds.refused(-1, Bounds::full, x -> x.tests(4, 6));
        Bounds.refused(-1, () -> with("001", "", "0"), x -> x.tests(0, 0));
    }

    static void promise9RefusesBothOnce() {
        Bounds.refused(-1, Bounds::some, x -> x.tests(-1, -1), x -> x.tests(3, 4));
    }

    // ---- 10: knows

    static void promise10Tells1And0() {
        WhichWayRound x = with(EIGHT_EASY, "", "0 0 0 0 0");
        int[] ends = {0, 7};
        for (int street : ends) {
            due("known", x.knows(0, street), 1);
            due("not any more", x.knows(0, street), 0);
            due("known again", x.knows(0, street), 1);
        }
        due("both", x.learnerOf(0, 1), 129);
        due("the last learner's", x.knows(4, 7), 1);
        due("his alone", x.learnerOf(4, 1), 128);
    }

    static void promise10RefusesNoSuchLearner() {
        Bounds.refused(-1, Bounds::some, x -> x.knows(-1, 0), x -> x.knows(3, 0), x -> x.knows(SMALL, 5), x -> x.knows(GREAT, 5));
        Bounds.refused(-1, Bounds::full, x -> x.knows(5, 7));
        Bounds.refused(-1, () -> with("001", "", ""), x -> x.knows(0, 0));
    }

    static void promise10RefusesNoSuchStreet() {
        Bounds.refused(-1, Bounds::some, x -> x.knows(0, -1), x -> x.knows(0, 6), x -> x.knows(2, SMALL), x -> x.knows(2, GREAT));
        Bounds.refused(-1, Bounds::full, x -> x.knows(4, 8));
        Bounds.refused(-1, () -> with("", "", "0"), x -> x.knows(0, 0));
    }

    static void promise10RefusesBothOnce() {
        Bounds.refused(-1, Bounds::some, x -> x.knows(-1, -1), x -> x.knows(3, 6));
    }

    // ---- 11: sets

    static void promise11TellsWhatItWas() {
        WhichWayRound x = new WhichWayRound();
        due("hour", x.sets(0, 23), 8);
        due("hour 23", x.sets(0, 0), 23);
        due("hour 0", x.sets(0, 5), 0);
        due("limit", x.sets(1, 99), 11);
        due("limit 99", x.sets(1, 0), 99);
        due("limit 0", x.sets(1, 5), 0);
    }

    static void promise11RefusesAnotherWhat() {
        Bounds.refused(-2, Bounds::some, x -> x.sets(-1, 5), x -> x.sets(2, 5), x -> x.sets(SMALL, 5), x -> x.sets(GREAT, 5));
    }

    static void promise11RefusesBelow0() {
        Bounds.refused(-4, Bounds::some, x -> x.sets(0, -1), x -> x.sets(0, SMALL), x -> x.sets(1, -1), x -> x.sets(1, SMALL));
    }

    static void promise11RefusesAnHourAbove23() {
        Bounds.refused(-6, Bounds::some, x -> x.sets(0, 24), x -> x.sets(0, 99), x -> x.sets(0, GREAT));
    }

    static void promise11RefusesALimitAbove99() {
        due("24 is a limit", new WhichWayRound().sets(1, 24), 11);
        Bounds.refused(-6, Bounds::some, x -> x.sets(1, 100), x -> x.sets(1, GREAT));
    }

    static void promise11RefusesWhatAheadOfNumbers() {
        Bounds.refused(-2, Bounds::some, x -> x.sets(-1, -1), x -> x.sets(2, -1), x -> x.sets(2, 100), x -> x.sets(-1, 100));
    }

    // ---- 12: day

    static void promise12TellsTheDay() {
        WhichWayRound x = new WhichWayRound();
        for (int i = 1; i <= 3; i++) {
            due("day", x.day(), i);
            due("counted", x.count(5), i);
        }
    }

    /** Day 999 lies beyond the 512 calls that are promised; what the class does there is looked at all the same. */
    static void promise12RefusesDay1000() {
        WhichWayRound x = new WhichWayRound();
        for (int i = 0; i < 998; i++) {
            x.day();
        }
        due("998", x.count(5), 998);
        due("999", x.day(), 999);
        x.sets(0, 3);
        due("1000", x.day(), -6);
        due("is counted", x.count(16), 1);
        due("day", x.count(5), 999);
        due("hour", x.count(3), 3);
        due("in letters", Bounds.told(x, "h04;d;"), -2004);
        due("nothing of it", x.count(3), 3);
        due("the last change", x.back(), 7);
        due("day 998", x.back(), 6);
        due("in letters, 999", Bounds.told(x, "d;"), 1);
        due("in letters, 1000", Bounds.told(x, "d;"), -2000);
    }

    /** Behind a change of some other: letters, row, image and the refusals are as they were. */
    private static void leavesAllElse(Bounds.Call change) {
        WhichWayRound x = Bounds.some();
        // Of the image: learner 0 has 1, 1, 1, 5, 0, 0 faults.
        Bounds.row(x, 1, 1, 1, 5, 0, 9);
        x.way(0);
        change.on(x);
        due("letters", x.count(7), 6);
        due("numbers", x.count(8), 6);
        due("refusals", x.count(14), 1);
        x.restore();
        due("limit of the image", x.count(4), 11);
        due("hour of the image", x.count(3), 8);
        due("day of the image", x.count(5), 0);
        due("known of the image", x.learnerOf(0, 1) + x.learnerOf(1, 1) + x.learnerOf(2, 1), 32);
        due("faults as told: not so is the last", x.judge(0), 5);
        due("the letters as told", x.town(), 2);
        due("hour 5", x.count(3), 5);
    }

    static void promise9LeavesAllElse() {
        leavesAllElse(x -> x.tests(0, 3));
    }

    static void promise10LeavesAllElse() {
        leavesAllElse(x -> x.knows(0, 3));
    }

    static void promise11LeavesAllElse() {
        leavesAllElse(x -> x.sets(0, 3));
        leavesAllElse(x -> x.sets(1, 3));
    }

    static void promise12LeavesAllElse() {
        leavesAllElse(x -> x.day());
    }

    // ---- 13: back

    static void promise13TellsHowManyCanStillBe() {
        WhichWayRound x = new WhichWayRound();
        x.day();
        x.day();
        due("one still", x.back(), 1);
        due("counted", x.count(9), 1);
        due("none still", x.back(), 0);
        due("counted", x.count(9), 0);
    }

    static void promise13LeavesRefusals() {
        WhichWayRound x = new WhichWayRound();
        x.day();
        x.way(0);
        x.back();
        due("refusals", x.count(14), 1);
    }

    static void promise13RefusesNone() {
        Bounds.refused(-3, Bounds::empty, x -> x.back());
        Bounds.refused(-3, Bounds::aTown, x -> x.back());
        Bounds.refused(-3, BoundsOfPromises1To25::allTakenBack, x -> x.back());
    }

    private static WhichWayRound allTakenBack() {
        WhichWayRound x = new WhichWayRound();
        x.sets(1, 1);
        x.sets(1, 2);
        x.back();
        x.back();
        return x;
    }

    // ---- 14: wayOf

    static void promise14TellsAllOfTheLongest() {
        WhichWayRound x = with("399 399 399 399 399 399 399 399", "255", "");
        due("streets", x.wayOf(0, 8, 0), 255);
        due("minutes", x.wayOf(0, 8, 1), 72);
        due("hard", x.wayOf(0, 8, 2), 176);
        due("kinds, each once", x.wayOf(0, 8, 3), 8);
    }

    static void promise14TellsAllOfTheShortest() {
        WhichWayRound x = with("591 001", "2", "");
        due("streets", x.wayOf(0, 8, 0), 2);
        due("minutes", x.wayOf(0, 8, 1), 1);
        due("hard", x.wayOf(0, 8, 2), 0);
        due("kinds", x.wayOf(0, 8, 3), 1);
    }

    static void promise14KindsAreBits0To5() {
        WhichWayRound x = Bounds.aTown();
        due("all", x.wayOf(3, 8, 3), 63);
        for (int kind = 0; kind <= 5; kind++) {
            due("one", with(kind + "11", "1", "").wayOf(0, 8, 3), 1 << kind);
        }
    }

    static void promise14HardIsAtTheHourTold() {
        WhichWayRound x = with("301 201", "3", "");
        int[][] dues = {{0, 3}, {7, 3}, {8, 5}, {9, 3}, {14, 3}, {15, 7}, {16, 5}, {17, 5}, {18, 3}, {23, 3}};
        for (int[] each : dues) {
            due("at " + each[0], x.wayOf(0, each[0], 2), each[1]);
        }
    }

    static void promise14RefusesNoSuchWay() {
        Bounds.refused(-1, Bounds::some, x -> x.wayOf(-1, 8, 0), x -> x.wayOf(4, 8, 0), x -> x.wayOf(SMALL, 8, 0),
            x -> x.wayOf(GREAT, 8, 0));
        Bounds.refused(-1, Bounds::full, x -> x.wayOf(6, 8, 0));
    }

    static void promise14RefusesNoSuchHour() {
        Bounds.refused(-1, Bounds::some, x -> x.wayOf(0, -1, 0), x -> x.wayOf(0, 24, 0), x -> x.wayOf(3, SMALL, 1),
            x -> x.wayOf(3, GREAT, 3));
    }

    static void promise14RefusesAnotherWhat() {
        Bounds.refused(-2, Bounds::some, x -> x.wayOf(0, 0, -1), x -> x.wayOf(3, 23, 4), x -> x.wayOf(0, 8, SMALL),
            x -> x.wayOf(0, 8, GREAT));
    }

    static void promise14RefusesEitherAheadOfWhat() {
        Bounds.refused(-1, Bounds::some, x -> x.wayOf(4, 8, 4), x -> x.wayOf(0, 24, 4), x -> x.wayOf(-1, -1, -1));
    }

    // ---- 15: faults

    static void promise15WorstIsOfSeveralTheLeast() {
        WhichWayRound x = with("091 021 031 031 001 031 001 001", "254 252 192 80", "0");
        due("of 2 3 3 0 3 0 0", x.faults(0, 0, 0, 2), 2);
        due("of 3 3 0 3 0 0", x.faults(0, 1, 0, 2), 2);
        due("without faults, of the way's own", x.faults(0, 2, 0, 2), 6);
        due("without faults, of two apart", x.faults(0, 3, 0, 2), 4);
    }

    static void promise15WorstMayBeTheFirstOrTheLast() {
        WhichWayRound x = with("051 001 001 001 001 001 001 041", "255 254", "0");
        due("first", x.faults(0, 0, 0, 2), 0);
        due("last", x.faults(0, 1, 0, 2), 7);
    }

    static void promise15PassesIs1Or0() {
        WhichWayRound x = with("051 061", "1 2", "0");
        due("passes", x.faults(0, 0, 0, 1), 1);
        due("does not", x.faults(0, 1, 0, 1), 0);
    }

    static void promise15FaultsAreFrom0() {
        WhichWayRound x = with("399 399 399 399 399 399 399 399", "255 1", "0 9");
        due("most", x.faults(0, 0, 8, 0), 176);
        due("at 8", x.faults(1, 1, 8, 0), 13);
        due("at 7", x.faults(1, 1, 7, 0), 2);
        due("none", with("001", "1", "0").faults(0, 0, 8, 0), 0);
    }

    static void promise15IsOfTheLearnerTheWayAndTheHourTold() {
        WhichWayRound x = with("231 051", "3 2", "0 0");
        x.knows(1, 0);
        int[][] dues = {{0, 0, 14, 9, 1, 1}, {0, 0, 15, 11, 0, 0}, {0, 1, 15, 5, 1, 1}, {1, 0, 15, 8, 1, 1}, {1, 1, 14, 5, 1, 1}};
        for (int[] each : dues) {
            for (int what = 0; what <= 2; what++) {
                String call = "learner " + each[0] + " way " + each[1] + " at " + each[2] + " what " + what;
                due(call, x.faults(each[0], each[1], each[2], what), each[3 + what]);
            }
        }
    }

    static void promise15TakesHours0And23() {
        WhichWayRound x = Bounds.aTown();
        due("0", x.faults(1, 0, 0, 0), 12);
        due("23", x.faults(1, 0, 23, 0), 12);
    }

    static void promise15RefusesNoSuchLearner() {
        Bounds.refused(-1, Bounds::some, x -> x.faults(-1, 0, 8, 0), x -> x.faults(3, 0, 8, 0), x -> x.faults(SMALL, 0, 8, 0),
            x -> x.faults(GREAT, 0, 8, 0));
        Bounds.refused(-1, Bounds::full, x -> x.faults(5, 0, 8, 0));
    }

    static void promise15RefusesNoSuchWay() {
        Bounds.refused(-1, Bounds::some, x -> x.faults(0, -1, 8, 0), x -> x.faults(0, 4, 8, 0), x -> x.faults(0, SMALL, 8, 0),
            x -> x.faults(0, GREAT, 8, 0));
        Bounds.refused(-1, Bounds::full, x -> x.faults(0, 6, 8, 0));
    }

    static void promise15RefusesNoSuchHour() {
        Bounds.refused(-1, Bounds::some, x -> x.faults(0, 0, -1, 0), x -> x.faults(0, 0, 24, 0), x -> x.faults(0, 0, SMALL, 0),
            x -> x.faults(0, 0, GREAT, 0));
    }

    static void promise15RefusesAnotherWhat() {
        Bounds.refused(-2, Bounds::some, x -> x.faults(0, 0, 8, -1), x -> x.faults(2, 3, 23, 3), x -> x.faults(0, 0, 0, SMALL),
            x -> x.faults(0, 0, 0, GREAT));
    }

    static void promise15RefusesAnyAheadOfWhat() {
        Bounds.refused(-1, Bounds::some, x -> x.faults(3, 0, 8, 3), x -> x.faults(0, 4, 8, 3), x -> x.faults(0, 0, 24, 3),
            x -> x.faults(-1, -1, -1, -1));
    }

    // ---- 16: bestHour

    static void promise16BestIsOfSeveralTheLeast() {
        due("alike at all hours", with("011", "1", "0").bestHour(0, 0, 0), 0);
        due("more at some", with("391 291", "3", "0").bestHour(0, 0, 0), 0);
        due("none at all", with("001", "1", "9").bestHour(0, 0, 0), 0);
    }

    static void promise16HoursAreNoneOrAll() {
        due("none", with("061", "1", "0").bestHour(0, 0, 1), 0);
        due("all", with("051", "1", "0").bestHour(0, 0, 1), Bounds.ALL_HOURS);
    }

    static void promise16HoursAreWithoutThoseNotPassed() {
        due("a ring's 6 at 15 to 17", with("231", "1", "0").bestHour(0, 0, 1), Bounds.ALL_HOURS & ~(7 << 15));
        due("a school's 6 at 8 and 15", with("311", "1", "0").bestHour(0, 0, 1), Bounds.ALL_HOURS & ~(1 << 8 | 1 << 15));
        WhichWayRound x = with("231", "1", "0");
        x.sets(0, 16);
        due("whatever the hour is", x.bestHour(0, 0, 1), Bounds.ALL_HOURS & ~(7 << 15));
    }

    static void promise16IsOfTheLearnerAndTheWayTold() {
        WhichWayRound x = with("061 051", "1 2", "0 1");
        due("6 on way 0", x.bestHour(0, 0, 1), 0);
        due("5 on way 1", x.bestHour(0, 1, 1), Bounds.ALL_HOURS);
        due("6 less 1", x.bestHour(1, 0, 1), Bounds.ALL_HOURS);
    }

    static void promise16RefusesNoSuchLearner() {
        Bounds.refused(-1, Bounds::some, x -> x.bestHour(-1, 0, 0), x -> x.bestHour(3, 0, 0), x -> x.bestHour(SMALL, 0, 1),
            x -> x.bestHour(GREAT, 0, 1));
        Bounds.refused(-1, Bounds::full, x -> x.bestHour(5, 0, 0));
    }

    static void promise16RefusesNoSuchWay() {
        Bounds.refused(-1, Bounds::some, x -> x.bestHour(0, -1, 0), x -> x.bestHour(0, 4, 0), x -> x.bestHour(0, SMALL, 1),
            x -> x.bestHour(0, GREAT, 1));
        Bounds.refused(-1, Bounds::full, x -> x.bestHour(0, 6, 0));
    }

    static void promise16RefusesAnotherWhat() {
        Bounds.refused(-2, Bounds::some, x -> x.bestHour(0, 0, -1), x -> x.bestHour(2, 3, 2), x -> x.bestHour(0, 0, SMALL),
            x -> x.bestHour(0, 0, GREAT));
    }

    static void promise16RefusesEitherAheadOfWhat() {
        Bounds.refused(-1, Bounds::some, x -> x.bestHour(3, 0, 2), x -> x.bestHour(0, 4, 2), x -> x.bestHour(-1, -1, -1));
    }

    // ---- 17: easiest

    static void promise17EasiestIsOfSeveralTheLeast() {
        WhichWayRound x = with("051 031 031 041", "1 2 4 8 6", "0");
        due("of 5 3 3 4 6", x.easiest(0, 0, 0), 1);
        due("of all without faults", with("001 001", "1 2", "0").easiest(0, 0, 0), 0);
    }

    static void promise17EasiestMayBeTheLast() {
        due("of 6 ways", with("051 041", "1 1 1 1 1 2", "0").easiest(0, 0, 0), 5);
    }

    static void promise17EasiestNeedNotBePassed() {
        due("9 and 8", with("091 081", "1 2", "0").easiest(0, 0, 0), 1);
    }

    static void promise17EasiestMayHaveVeryManyFaults() {
        WhichWayRound x = with("391 391 391 391 391 391 391 391", "255 127", "0");
        due("176 and 154", x.easiest(0, 8, 0), 1);
    }

    static void promise17EasiestIsAtTheHourTold() {
        WhichWayRound x = with("201 021", "1 2", "0");
        int[][] dues = {{0, 0}, {14, 0}, {15, 1}, {17, 1}, {18, 0}, {23, 0}};
        for (int[] each : dues) {
            due("at " + each[0], x.easiest(0, each[0], 0), each[1]);
        }
    }

    static void promise17IsOfTheLearnerTold() {
        WhichWayRound x = with("071 061", "1 2", "0 1 0");
        x.knows(2, 0);
        int[][] dues = {{0, 1, 0}, {1, 1, 2}, {2, 0, 1}};
        for (int[] each : dues) {
            due("easiest of " + each[0], x.easiest(each[0], 0, 0), each[1]);
            due("ways of " + each[0], x.easiest(each[0], 0, 1), each[2]);
        }
    }

    static void promise17WaysAreAtTheHourTold() {
        WhichWayRound x = with("231", "1", "0");
        int[][] dues = {{0, 1}, {14, 1}, {15, 0}, {17, 0}, {18, 1}, {23, 1}};
        for (int[] each : dues) {
            due("at " + each[0], x.easiest(0, each[0], 1), each[1]);
        }
    }

    static void promise17EasiestIsNoneWithoutWays() {
        due("none", with("001", "", "0").easiest(0, 0, 0), -9);
        due("bits", with("001", "", "0").easiest(0, 0, 1), 0);
    }

    static void promise17WaysAreNoneOrAll() {
        WhichWayRound x = Bounds.sixWays();
        due("all", x.easiest(0, 0, 1), 63);
        x.sets(1, 4);
        due("all but the last", x.easiest(0, 0, 1), 31);
        x.sets(1, 0);
        due("the first alone", x.easiest(0, 0, 1), 1);
        due("none", with("061", "1 1 1 1 1 1", "0").easiest(0, 0, 1), 0);
    }

    static void promise17RefusesNoSuchLearner() {
        Bounds.refused(-1, Bounds::some, x -> x.easiest(-1, 8, 0), x -> x.easiest(3, 8, 0), x -> x.easiest(SMALL, 8, 1),
            x -> x.easiest(GREAT, 8, 1));
        Bounds.refused(-1, Bounds::full, x -> x.easiest(5, 8, 0));
    }

    static void promise17RefusesNoSuchHour() {
        Bounds.refused(-1, Bounds::some, x -> x.easiest(0, -1, 0), x -> x.easiest(0, 24, 0), x -> x.easiest(0, SMALL, 1),
            x -> x.easiest(0, GREAT, 1));
    }

    static void promise17RefusesAnotherWhat() {
        Bounds.refused(-2, Bounds::some, x -> x.easiest(0, 0, -1), x -> x.easiest(2, 23, 2), x -> x.easiest(0, 0, SMALL),
            x -> x.easiest(0, 0, GREAT));
    }

    static void promise17RefusesEitherAheadOfWhat() {
        Bounds.refused(-1, Bounds::some, x -> x.easiest(3, 8, 2), x -> x.easiest(0, 24, 2), x -> x.easiest(-1, -1, -1));
    }

    // ---- 18: learn

    static void promise18NothingIsLearntWhereOnePasses() {
        due("passes", with("051", "1", "0").learn(0, 0, 0), 0);
        due("all ways", Bounds.sixWays().learn(0, -1, 0), 0);
    }

    static void promise18TakesTheFewestThoughTheirBitsAreGreater() {
        // 2, 2 and 4 are 8: by 6 one passes with streets 0 and 1 known, but with street 2 alone as well.
        WhichWayRound x = with("021 021 041", "7", "0");
        x.sets(1, 6);
        due("street 2", x.learn(0, 0, 0), 4);
        due("all ways", x.learn(0, -1, 0), 4);
    }

    static void promise18OfSeveralTakesTheLeast() {
        WhichWayRound x = with("041 041 041", "6", "0");
        x.sets(1, 6);
        due("one of 1 and 2", x.learn(0, 0, 0), 2);
        x.sets(1, 4);
        due("both", x.learn(0, 0, 0), 6);
        WhichWayRound y = with("041 041 041", "7", "0");
        y.sets(1, 8);
        due("two of three", y.learn(0, 0, 0), 3);
    }

    static void promise18LearnsAll8() {
        WhichWayRound x = with(EIGHT_EASY, "255", "0");
        x.sets(1, 0);
        due("all", x.learn(0, 0, 0), 255);
        x.sets(1, 1);
        due("all but the last", x.learn(0, 0, 0), 127);
    }

    static void promise18IsNoneWhereAllAreNotEnough() {
        WhichWayRound x = with("591 001", "1 2", "0");
        due("13 known are 6", x.learn(0, 0, 15), -9);
        due("11 known are 5", x.learn(0, 0, 14), 1);
        due("all ways at 15", x.learn(0, -1, 15), -9);
        due("the other way", x.learn(0, 1, 15), 0);
    }

    static void promise18WhatIsKnownIsNotLearnt() {
        WhichWayRound x = with("041 041", "3", "0");
        x.knows(0, 0);
        x.sets(1, 5);
        due("the other", x.learn(0, 0, 0), 2);
        x.sets(1, 6);
        due("none", x.learn(0, 0, 0), 0);
        x.knows(0, 1);
        x.sets(1, 3);
        due("all known are not enough", x.learn(0, 0, 0), -9);
    }

    static void promise18IsBySkill() {
        WhichWayRound x = with("061", "1", "1 0");
        due("6 less 1", x.learn(0, 0, 0), 0);
        due("6 less 0", x.learn(1, 0, 0), 1);
        due("6 less 1, all ways", x.learn(0, -1, 0), 0);
    }

    static void promise18IsByWhatTheLearnerKnows() {
        WhichWayRound x = with("061", "1", "0 0");
        x.knows(1, 0);
        due("not known", x.learn(0, 0, 0), 1);
        due("known", x.learn(1, 0, 0), 0);
        due("known, all ways", x.learn(1, -1, 0), 0);
    }

    static void promise18LearnsForAllWaysWithWayMinus1() {
        WhichWayRound x = with("061 061 001", "1 2 4", "0");
        due("way 0", x.learn(0, 0, 0), 1);
        due("way 1", x.learn(0, 1, 0), 2);
        due("way 2", x.learn(0, 2, 0), 0);
        due("all", x.learn(0, -1, 0), 3);
    }

    static void promise18LearnsNothingForNoWays() {
        due("all of none", with("091", "", "0").learn(0, -1, 0), 0);
        due("without streets", with("", "", "0").learn(0, -1, 0), 0);
    }

    static void promise18RefusesNoSuchLearner() {
        Bounds.refused(-1, Bounds::some, x -> x.learn(-1, 0, 8), x -> x.learn(3, 0, 8), x -> x.learn(3, -1, 8),
            x -> x.learn(SMALL, 0, 8), x -> x.learn(GREAT, -1, 8));
        Bounds.refused(-1, Bounds::full, x -> x.learn(5, -1, 8));
    }

    static void promise18RefusesNoSuchWay() {
        Bounds.refused(-1, Bounds::some, x -> x.learn(0, 4, 8), x -> x.learn(0, GREAT, 8));
        Bounds.refused(-1, Bounds::full, x -> x.learn(0, 6, 8));
        Bounds.refused(-1, () -> with("001", "", "0"), x -> x.learn(0, 0, 8));
    }

    static void promise18RefusesWaysBelowMinus1() {
        Bounds.refused(-1, Bounds::some, x -> x.learn(0, -2, 8), x -> x.learn(0, SMALL, 8));
    }

    static void promise18RefusesNoSuchHour() {
        Bounds.refused(-1, Bounds::some, x -> x.learn(0, 0, -1), x -> x.learn(0, 0, 24), x -> x.learn(0, -1, -1),
            x -> x.learn(0, -1, 24), x -> x.learn(0, 0, SMALL), x -> x.learn(0, 0, GREAT));
    }

    static void promise18TakesHours0And23() {
        WhichWayRound x = with("231", "1", "0");
        int[][] dues = {{0, 0}, {14, 0}, {15, 1}, {17, 1}, {18, 0}, {23, 0}};
        for (int[] each : dues) {
            due("at " + each[0], x.learn(0, 0, each[0]), each[1]);
        }
    }

    // ---- 19: drawnWay

    static void promise19Is0By1WithoutWays() {
        due("above", with("001", "", "0").drawnWay(0, 0, 0), 0);
        due("below", with("001", "", "0").drawnWay(0, 0, 1), 1);
    }

    static void promise19Is0By1WhereNoneIsPassed() {
        due("above", with("061", "1 1 1 1", "0").drawnWay(0, 0, 0), 0);
        due("below", with("061", "1 1 1 1", "0").drawnWay(0, 0, 1), 1);
    }

    static void promise19Is1By1WhereAllArePassed() {
        due("above", Bounds.sixWays().drawnWay(0, 0, 0), 1);
        due("below", Bounds.sixWays().drawnWay(0, 0, 1), 1);
    }

    static void promise19IsInLowestTerms() {
        WhichWayRound x = Bounds.sixWays();
        x.sets(1, 3);
        due("4 of 6, above", x.drawnWay(0, 0, 0), 2);
        due("4 of 6, below", x.drawnWay(0, 0, 1), 3);
        x.sets(1, 4);
        due("5 of 6, above", x.drawnWay(0, 0, 0), 5);
        due("5 of 6, below", x.drawnWay(0, 0, 1), 6);
    }

    static void promise19IsAtTheHourTold() {
        WhichWayRound x = with("231 001", "1 2", "0");
        int[][] dues = {{0, 1}, {14, 1}, {15, 2}, {17, 2}, {18, 1}, {23, 1}};
        for (int[] each : dues) {
            due("at " + each[0], x.drawnWay(0, each[0], 1), each[1]);
        }
    }

    static void promise19IsOfTheLearnerTold() {
        WhichWayRound x = with("061 061", "1 2", "0 1 0");
        x.knows(2, 0);
        int[][] dues = {{0, 0, 1}, {1, 1, 1}, {2, 1, 2}};
        for (int[] each : dues) {
            due("above of " + each[0], x.drawnWay(each[0], 0, 0), each[1]);
            due("below of " + each[0], x.drawnWay(each[0], 0, 1), each[2]);
        }
    }

    static void promise19RefusesNoSuchLearner() {
        Bounds.refusedLong(-1, Bounds::some, x -> x.drawnWay(-1, 8, 0), x -> x.drawnWay(3, 8, 0), x -> x.drawnWay(SMALL, 8, 1),
            x -> x.drawnWay(GREAT, 8, 1));
        Bounds.refusedLong(-1, Bounds::full, x -> x.drawnWay(5, 8, 0));
    }

    static void promise19RefusesNoSuchHour() {
        Bounds.refusedLong(-1, Bounds::some, x -> x.drawnWay(0, -1, 0), x -> x.drawnWay(0, 24, 0), x -> x.drawnWay(0, SMALL, 1),
            x -> x.drawnWay(0, GREAT, 1));
    }

    static void promise19RefusesAnotherPart() {
        Bounds.refusedLong(-2, Bounds::some, x -> x.drawnWay(0, 0, -1), x -> x.drawnWay(2, 23, 2), x -> x.drawnWay(0, 0, SMALL),
            x -> x.drawnWay(0, 0, GREAT));
        Bounds.refusedLong(-2, () -> with("", "", "0"), x -> x.drawnWay(0, 0, 2));
    }

    static void promise19RefusesEitherAheadOfPart() {
        Bounds.refusedLong(-1, Bounds::some, x -> x.drawnWay(3, 8, 2), x -> x.drawnWay(0, 24, 2), x -> x.drawnWay(-1, -1, -1));
    }

    // ---- 20: alike

    static void promise20IsFrom0To8() {
        WhichWayRound x = with(EIGHT_EASY, "255 255 15 240 129 16", "");
        due("all", x.alike(0, 1), 8);
        due("none", x.alike(2, 3), 0);
        due("the first", x.alike(2, 4), 1);
        due("the last way, the other first", x.alike(5, 0), 1);
        due("the last way", x.alike(0, 5), 1);
    }

    static void promise20RefusesNoSuchWay() {
        Bounds.refused(-1, Bounds::some, x -> x.alike(-1, 0), x -> x.alike(0, -1), x -> x.alike(4, 0), x -> x.alike(0, 4),
            x -> x.alike(SMALL, 0), x -> x.alike(0, GREAT), x -> x.alike(-1, 4));
        Bounds.refused(-1, Bounds::full, x -> x.alike(0, 6), x -> x.alike(6, 0));
    }

    static void promise20RefusesOneTwice() {
        Bounds.refused(-1, Bounds::some, x -> x.alike(0, 0), x -> x.alike(3, 3));
        Bounds.refused(-1, Bounds::full, x -> x.alike(5, 5));
    }

    // ---- 21: mostAlike

    static void promise21IsNoneWithoutTwoWays() {
        due("no ways", new WhichWayRound().mostAlike(), -9);
        due("one", with("001", "1", "").mostAlike(), -9);
        due("two", with("001", "1 1", "").mostAlike(), 1);
    }

    static void promise21IsOfSeveralTheFirst() {
        due("nothing alike at all", with("001 001 001", "1 2 4", "").mostAlike(), 1);
        due("1 and 2 as 2 and 3", with("001 001 001", "1 6 6 6", "").mostAlike(), 12);
        due("0 and 3 as 1 and 2", with("001 001", "1 2 2 1", "").mostAlike(), 3);
    }

    static void promise21MayBeTheLastTwo() {
        due("4 and 5", with("001 001 001", "1 1 1 1 7 6", "").mostAlike(), 45);
    }

    static void promise21MayBeAnyTwo() {
        for (int a = 0; a < 6; a++) {
            for (int b = a + 1; b < 6; b++) {
                WhichWayRound x = with(EIGHT_EASY, "", "");
                for (int w = 0; w < 6; w++) {
                    x.way(1 << (w == b ? a : w));
                }
                due("two", x.mostAlike(), 10 * a + b);
            }
        }
    }

    // ---- 22: fair

    static void promise22Is0OfFewerThanTwoWays() {
        due("none", new WhichWayRound().fair(0, 0), 0);
        due("one", with("091", "1", "").fair(0, 0), 0);
        due("two", with("091", "1 1", "").fair(0, 0), 0);
    }

    static void promise22IsTheMostApart() {
        due("of 0 .. 5", Bounds.sixWays().fair(0, 0), 5);
        due("from 0", with("001 091", "1 2", "").fair(0, 0), 9);
        due("the other way round", with("091 001", "1 2", "").fair(0, 0), 9);
        due("the middle between", with("031 091 001", "1 2 4", "").fair(0, 0), 9);
    }

    static void promise22IsOfVeryHardWays() {
        WhichWayRound x = with("391 391 391 391 391 391 391 391", "255 63 127", "");
        due("176 and 132", x.fair(8, 0), 44);
        due("176 and 154, as near as 154 and 132", x.fair(8, 2), 5);
        WhichWayRound y = with("001 391 391 391 391 391 391 391", "1 255", "");
        due("0 and 154", y.fair(8, 0), 154);
        due("these two", y.fair(8, 2), 3);
    }

    static void promise22SetIsOfOneToSix() {
        WhichWayRound x = Bounds.sixWays();
        for (int k = 1; k <= 6; k++) {
            due("of " + k, x.fair(0, k), (1 << k) - 1);
        }
    }

    static void promise22SetIsOfSeveralTheLeast() {
        due("of one", with("091 001", "1 2", "").fair(0, 1), 1);
        due("of two alike", with("001 041 091 041", "1 2 4 8", "").fair(0, 2), 10);
        due("of two, one apart each", with("051 001 041 061", "1 2 4 8", "").fair(0, 2), 5);
    }

    static void promise22SetMayBeOfTheLast() {
        due("the last two", with("001 091 051 051", "1 2 4 8", "").fair(0, 2), 12);
    }

    static void promise22SetIsNoneOfFewerWays() {
        due("one of none", new WhichWayRound().fair(0, 1), -9);
        due("two of one", with("001", "1", "").fair(0, 2), -9);
        due("six of five", with("001", "1 1 1 1 1", "").fair(0, 6), -9);
        due("five of five", with("001", "1 1 1 1 1", "").fair(0, 5), 31);
    }

    static void promise22IsAtTheHourTold() {
        WhichWayRound x = with("201 011", "1 2", "");
        int[][] dues = {{0, 0}, {14, 0}, {15, 2}, {17, 2}, {18, 0}, {23, 0}};
        for (int[] each : dues) {
            due("at " + each[0], x.fair(each[0], 0), each[1]);
        }
    }

    static void promise22SetIsAtTheHourTold() {
        WhichWayRound x = with("201 011 031", "1 2 4", "");
        int[][] dues = {{0, 3}, {14, 3}, {15, 5}, {17, 5}, {18, 3}, {23, 3}};
        for (int[] each : dues) {
            due("at " + each[0], x.fair(each[0], 2), each[1]);
        }
    }

    static void promise22RefusesNoSuchHour() {
        Bounds.refused(-1, Bounds::some, x -> x.fair(-1, 0), x -> x.fair(24, 0), x -> x.fair(SMALL, 1), x -> x.fair(GREAT, 6));
    }

    static void promise22RefusesKBelow0() {
        Bounds.refused(-4, Bounds::some, x -> x.fair(0, -1), x -> x.fair(23, SMALL));
    }

    static void promise22RefusesKAbove6() {
        Bounds.refused(-6, Bounds::some, x -> x.fair(0, 7), x -> x.fair(23, GREAT));
    }

    static void promise22RefusesHourAheadOfK() {
        Bounds.refused(-1, Bounds::some, x -> x.fair(24, -1), x -> x.fair(-1, 7));
    }

    // ---- 23: moped

    static void promise23KnowsNothingBehind0() {
        due("none", Bounds.sixWays().moped(0, 0), 0);
    }

    static void promise23KnowsOneWayMoreBehindEach() {
        WhichWayRound x = Bounds.sixWays();
        for (int n = 1; n <= 6; n++) {
            due("behind " + n, x.moped(n, 0), (1 << n) - 1);
        }
    }

    static void promise23GoesRound() {
        WhichWayRound x = with("001 001 001", "1 4", "");
        due("behind 2", x.moped(2, 0), 5);
        due("behind 3", x.moped(3, 0), 5);
        due("behind 60", x.moped(60, 0), 5);
    }

    static void promise23KnowsNothingWithoutWays() {
        due("none", with("001", "", "").moped(60, 0), 0);
        due("fewest", with("001", "", "").moped(60, 1), 0);
    }

    static void promise23FewestIsFrom1ToAllWays() {
        due("the first has all", with("001 001", "3 1 2", "").moped(0, 1), 1);
        due("the last has one more", with("001 001 001", "1 1 1 2 3 4", "").moped(0, 1), 6);
        due("the last has none more", with("001 001 001", "1 1 1 2 7 4", "").moped(0, 1), 5);
        due("whatever n", Bounds.sixWays().moped(1, 1), 6);
        due("a street in no way is not asked for", with("001 001", "1 1 1", "").moped(60, 1), 1);
    }

    static void promise23RefusesBelow0() {
        Bounds.refused(-4, Bounds::some, x -> x.moped(-1, 0), x -> x.moped(SMALL, 1));
    }

    static void promise23RefusesAbove60() {
        Bounds.refused(-6, Bounds::some, x -> x.moped(61, 0), x -> x.moped(61, 1), x -> x.moped(GREAT, 1));
    }

    static void promise23RefusesAnotherWhat() {
        Bounds.refused(-2, Bounds::some, x -> x.moped(0, -1), x -> x.moped(60, 2), x -> x.moped(0, SMALL), x -> x.moped(0, GREAT));
    }

    static void promise23RefusesNumbersAheadOfWhat() {
        Bounds.refused(-4, Bounds::some, x -> x.moped(-1, 2));
        Bounds.refused(-6, Bounds::some, x -> x.moped(61, 2));
    }

    // ---- 24: made

    private static WhichWayRound weights() {
        return with("011 021 041", "", "");
    }

    static void promise24HasOneStreetAtLeast() {
        due("nearest to 0", weights().made(0, 72, 0), 1);
        due("a street of none", with("031 001", "", "").made(0, 72, 0), 2);
    }

    static void promise24IsNearestFromEitherSide() {
        WhichWayRound x = with("031 091", "", "");
        due("5: from below", x.made(0, 72, 5), 1);
        due("7: from above", x.made(0, 72, 7), 2);
        due("11: from above", x.made(0, 72, 11), 3);
        due("12: just", x.made(0, 72, 12), 3);
    }

    static void promise24IsOfSeveralTheLeast() {
        due("3 and 9 are as near to 6", with("031 091", "", "").made(0, 72, 6), 1);
        due("9 and 3 are as near to 6", with("091 031", "", "").made(0, 72, 6), 1);
        due("2 as 1 and 1", with("011 011 021", "", "").made(0, 72, 2), 3);
    }

    static void promise24TakesV0And99() {
        due("0", weights().made(0, 72, 0), 1);
        due("1", with("001 011", "", "").made(0, 72, 1), 2);
        due("99 away", with("001", "", "").made(0, 72, 99), 1);
        // Four schools at 8 are 88, with a hill's 10 or 11 besides.
        WhichWayRound x = with("391 391 391 391 181 191", "", "");
        due("98", x.made(0, 72, 98), 31);
        due("99", x.made(0, 72, 99), 47);
    }

    static void promise24TakesMinutesUpToM() {
        WhichWayRound x = with("011 022 043", "", "");
        int[] dues = {1, 2, 4, 5, 6, 7};
        for (int m = 1; m <= 6; m++) {
            due("in " + m, x.made(0, m, 99), dues[m - 1]);
        }
    }

    static void promise24TakesM1And72() {
        due("1", with("012 011", "", "").made(0, 1, 99), 2);
        WhichWayRound x = with("019 019 019 019 019 019 019 019", "", "");
        due("72", x.made(0, 72, 99), 255);
        due("71", x.made(0, 71, 99), 127);
        due("8", x.made(0, 8, 99), -9);
    }

    static void promise24TakesKinds0And63() {
        WhichWayRound x = Bounds.aTown();
        due("none is asked for", x.made(0, 72, 0), 16);
        due("all", x.made(63, 72, 0), 63);
        due("all, in 24", x.made(63, 24, 99), 63);
        due("all, in 23", x.made(63, 23, 99), -9);
    }

    static void promise24HoldsOneOfEachKindTold() {
        WhichWayRound x = Bounds.aTown();
        for (int kind = 0; kind <= 5; kind++) {
            due("kind " + kind, x.made(1 << kind, 72, 0), 1 << kind);
        }
        due("others may be in it", x.made(32, 72, 99), 63);
        due("one of several of a kind", with("011 111 101", "", "").made(3, 72, 0), 5);
    }

    static void promise24IsAtHour() {
        WhichWayRound x = with("201 021", "", "");
        due("1 at 8", x.made(0, 72, 1), 1);
        x.sets(0, 15);
        due("3 at 15, 2 is nearer to 1", x.made(0, 72, 1), 2);
        due("3", x.made(0, 72, 3), 1);
    }

    static void promise24IsNone() {
        due("without streets", new WhichWayRound().made(0, 72, 0), -9);
        due("without the kind", weights().made(2, 72, 0), -9);
        due("in too few minutes", with("019", "", "").made(0, 8, 0), -9);
    }

    static void promise24RefusesBelow() {
        Bounds.refused(-4, Bounds::some, x -> x.made(-1, 1, 0), x -> x.made(0, 0, 0), x -> x.made(0, 1, -1),
            x -> x.made(SMALL, 1, 0), x -> x.made(0, SMALL, 0), x -> x.made(0, 1, SMALL), x -> x.made(0, -1, 0));
    }

    static void promise24RefusesAbove() {
        Bounds.refused(-6, Bounds::some, x -> x.made(64, 72, 99), x -> x.made(63, 73, 99), x -> x.made(63, 72, 100),
            x -> x.made(GREAT, 72, 99), x -> x.made(63, GREAT, 99), x -> x.made(63, 72, GREAT));
    }

    static void promise24RefusesBelowAheadOfAbove() {
        Bounds.refused(-4, Bounds::some, x -> x.made(64, 0, 0), x -> x.made(64, 1, -1), x -> x.made(0, 73, -1),
            x -> x.made(-1, 73, 0), x -> x.made(-1, 1, 100), x -> x.made(0, 0, 100));
    }

    // ---- 25: unlike

    static void promise25IsNoneWithoutTwoWays() {
        due("no ways", new WhichWayRound().unlike(), -9);
        due("one", with("001", "1", "").unlike(), -9);
        due("two", with("001", "1 1", "").unlike(), 1);
    }

    static void promise25IsNoneWithoutAllKinds() {
        due("a kind in no way", with("001 001 101", "1 2", "").unlike(), -9);
        due("a kind in a third way", with("001 101 201", "1 2 4", "").unlike(), -9);
        due("a kind of no street is not asked for", with("001 501", "1 2", "").unlike(), 1);
    }

    static void promise25HasFewestBoth() {
        // 0 and 1 have two both, 0 and 2 one, 1 and 2 one.
        due("of 2 1 1", with("001 001 001", "3 3 6", "").unlike(), 2);
        due("all both", with("001 001", "3 3", "").unlike(), 1);
        due("fewer without all kinds do not count", with("001 101 001", "1 4 3 3", "").unlike(), 12);
    }

    static void promise25IsOfSeveralTheFirst() {
        due("0 and 1 as 0 and 2", with("001 001 001", "1 2 4", "").unlike(), 1);
        due("0 and 2 as 0 and 3, 1 and 2", with("001 101", "1 1 2 2", "").unlike(), 2);
        due("0 and 3 as 1 and 2", with("001 101", "1 2 1 2", "").unlike(), 1);
        due("0 and 3 as 1 and 2, too", with("001 101 201", "1 2 5 6", "").unlike(), 3);
    }

    static void promise25MayBeOfTheLast() {
        due("0 and 5", with("001 101", "1 1 1 1 1 2", "").unlike(), 5);
        due("4 and 5", with("001 101 201", "1 1 1 1 3 4", "").unlike(), 45);
    }

    static void promise25MayBeAnyTwo() {
        for (int a = 0; a < 6; a++) {
            for (int b = a + 1; b < 6; b++) {
                WhichWayRound x = with("001 101", "", "");
                for (int w = 0; w < 6; w++) {
                    x.way(w == a ? 1 : w == b ? 2 : 3);
                }
                due("two", x.unlike(), 10 * a + b);
            }
        }
    }
}
