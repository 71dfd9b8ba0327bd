/** The promises one by one: ordinary inputs, the edges that the document names, wrong inputs. All dues are by hand. */
public final class PromisesTest {
    private static final long LONG = 4000000000000000000L;
    private static final int GREAT = Integer.MAX_VALUE;
    private static final int SMALL = Integer.MIN_VALUE;

    private static int right = 0;
    private static int wrong = 0;

    private static void due(String call, long got, long want) {
        if (got == want) {
            right++;
        } else {
            wrong++;
            System.out.println(call + " answered " + got + ", due is " + want);
        }
    }

    /** A call that is refused: its answer, and one refusal of its kind more than before. */
    private static void refused(WhichWayRound x, String call, int before, long got, int why) {
        due(call, got, why);
        due(call + " is counted", x.count(10 - why), before + 1);
    }

    private static void told(WhichWayRound x, String text, int want) {
        for (int i = 0; i < text.length(); i++) {
            due("letter " + i + " of " + text, x.feed(text.charAt(i)), i + 1);
        }
        due("town " + text, x.town(), want);
        due("letters left of " + text, x.count(7), 0);
    }

    private static void numbers(WhichWayRound x, int... row) {
        x.clear();
        for (int i = 0; i < row.length; i++) {
            due("row " + row[i], x.row(row[i]), i + 1);
        }
    }

    /**
     * One street of each kind, four ways, three learners. Hard of the streets:
     * <pre>
     *            0 STREET  1 HILL  2 RING  3 SCHOOL  4 YARD  5 CROWN   ways:  7   56   21   63
     *   minutes     3         5       1        4        9       2             9   15   13   24
     *   at 8        4         4       4        8        3       3            12   14   11   26
     *   at 15       4         4       6        8        3       5            14   16   13   30
     *   at 16, 17   4         4       6        4        3       5            14   12   13   26
     *   else        4         4       4        4        3       3            12   10   11   22
     * </pre>
     * Skills are 3, 0, 6.
     */
    private static WhichWayRound aTown() {
        WhichWayRound x = new WhichWayRound();
        x.street(0, 4, 3);
        x.street(1, 2, 5);
        x.street(2, 3, 1);
        x.street(3, 2, 4);
        x.street(4, 7, 9);
        x.street(5, 1, 2);
        x.way(7);
        x.way(56);
        x.way(21);
        x.way(63);
        x.learner(3);
        x.learner(0);
        x.learner(6);
        return x;
    }

    private static void aNewObject() {
        WhichWayRound x = new WhichWayRound();
        int[] counts = {0, 0, 0, 8, 11, 0, 0, 0, 0, 0, -9, 0, 0, 0, 0, 0, 0, -9};
        for (int what = 0; what < counts.length; what++) {
            due("new: count " + what, x.count(what), counts[what]);
        }
        due("new: street 0", x.streetOf(0, 0), -1);
        due("new: learner 0", x.learnerOf(0, 0), -1);
        due("new: way 0", x.wayOf(0, 8, 0), -1);
        due("another is another", new WhichWayRound().count(11), 0);
    }

    private static void feed() {
        WhichWayRound x = new WhichWayRound();
        refused(x, "feed -1", 0, x.feed(-1), -4);
        refused(x, "feed least", 1, x.feed(SMALL), -4);
        refused(x, "feed 256", 0, x.feed(256), -6);
        refused(x, "feed greatest", 1, x.feed(GREAT), -6);
        due("feed 0", x.feed(0), 1);
        due("feed 255", x.feed(255), 2);
        for (int i = 3; i <= 96; i++) {
            due("feed the " + i + ".", x.feed('d'), i);
        }
        refused(x, "feed the 97.", 2, x.feed('d'), -6);
        refused(x, "feed below, without room", 2, x.feed(-1), -4);
        due("letters", x.count(7), 96);
        due("0 is no first letter", x.town(), -1000);
        due("letters gone", x.count(7), 0);
    }

    private static void townOfLetters() {
        WhichWayRound x = new WhichWayRound();
        told(x, "s043;s125;w003;l3;k01;h15;m07;t00;d;", 9);
        due("streets", x.count(0), 2);
        due("kind", x.streetOf(1, 0), 1);
        due("figure", x.streetOf(1, 1), 2);
        due("minutes", x.streetOf(1, 2), 5);
        due("way", x.wayOf(0, 8, 0), 3);
        due("skill", x.learnerOf(0, 0), 3);
        due("the test's streets but the greatest", x.learnerOf(0, 1), 1);
        due("hour by the day", x.count(3), 8);
        due("limit", x.count(4), 7);
        due("day", x.count(5), 1);
        told(x, "k00;k00;k00;", 3);
        due("known, told thrice more", x.learnerOf(0, 1), 0);
        told(x, "h23;", 1);
        due("hour told", x.count(3), 23);
        told(x, "m99;h00;", 2);
        due("limit told", x.count(4), 99);
        due("hour 0", x.count(3), 0);
        due("nothing is counted as refused", x.count(11) + x.count(12) + x.count(14) + x.count(16), 0);
        StringBuilder days = new StringBuilder();
        for (int i = 0; i < 48; i++) {
            days.append("d;");
        }
        told(x, days.toString(), 48);
        due("days", x.count(5), 49);
    }

    private static void townFirstFaults() {
        WhichWayRound x = new WhichWayRound();
        told(x, "", -1000);
        told(x, "x", -1000);
        told(x, ";", -1000);
        told(x, "S043;", -1000);
        told(x, "s", -1001);
        told(x, "s04", -1003);
        told(x, "s043", -1004);
        told(x, "s0435", -1004);
        told(x, "s0/3;", -1002);
        told(x, "s0:3;", -1002);
        told(x, "w1;", -1002);
        told(x, "l12;", -1002);
        told(x, "k1;", -1002);
        told(x, "h1;", -1002);
        told(x, "t1;", -1002);
        told(x, "m1;", -1002);
        told(x, "d0;", -1001);
        told(x, "d", -1001);
        told(x, "d;;", -1002);
        told(x, "d;s", -1003);
        told(x, "d; d;", -1002);
        told(x, "s999;h99;q", -1009);
        due("nothing of it comes", x.count(5), 0);
    }

    private static void townSecondFaults() {
        WhichWayRound x = new WhichWayRound();
        told(x, "s601;", -2000);
        told(x, "d;s000;", -2002);
        told(x, "d;w000;", -2002);
        told(x, "d;w001;", -2002);
        told(x, "s011;w001;w002;", -2010);
        told(x, "s011;l1;k10;", -2008);
        told(x, "s011;l1;k01;", -2008);
        told(x, "w001;s011;", -2000);
        told(x, "h24;", -2000);
        told(x, "s011;w001;t00;", -2010);
        told(x, "s011;l1;t00;", -2008);
        due("with a fault nothing comes", x.count(0) + x.count(1) + x.count(2) + x.count(5), 0);
        told(x, "l0;l0;l0;l0;l0;l0;", -2015);
        told(x, "s011;s011;s011;s011;s011;s011;s011;s011;s011;", -2040);
        told(x, "s011;w001;w001;w001;w001;w001;w001;w001;", -2035);
        told(x, "s011;s011;s011;s011;s011;s011;s011;s011;w255;", 9);
        told(x, "l0;s011;", -2003);
        told(x, "w256;", -2000);
        due("a fault counts no refusal", x.count(11) + x.count(12) + x.count(14) + x.count(16), 0);
    }

    /** Day 999 lies beyond the 512 calls that the document promises; it is refused all the same. */
    private static void lastDay() {
        WhichWayRound x = new WhichWayRound();
        x.learner(0);
        x.street(0, 1, 1);
        for (int i = 1; i <= 999; i++) {
            due("day " + i, x.day(), i);
        }
        x.sets(0, 3);
        x.knows(0, 0);
        refused(x, "day 1000", 0, x.day(), -6);
        due("the hour stays", x.count(3), 3);
        due("nothing is forgotten", x.learnerOf(0, 1), 1);
        told(x, "h04;d;", -2004);
        due("the day of letters does not come", x.count(5), 999);
        due("back from a street known", x.back(), 7);
    }

    private static void streetOf() {
        WhichWayRound x = aTown();
        int[] figures = {4, 2, 3, 2, 7, 1};
        int[] minutes = {3, 5, 1, 4, 9, 2};
        int[] balls = {1, 1, 3, 4, 0, 3};
        int[][] hours = {{8}, {15}, {16, 17}, {7, 9, 14, 18, 0, 23}};
        int[][] hard = {{4, 4, 4, 8, 3, 3}, {4, 4, 6, 8, 3, 5}, {4, 4, 6, 4, 3, 5}, {4, 4, 4, 4, 3, 3}};
        for (int s = 0; s < 6; s++) {
            due("kind of " + s, x.streetOf(s, 0), s);
            due("figure of " + s, x.streetOf(s, 1), figures[s]);
            due("minutes of " + s, x.streetOf(s, 2), minutes[s]);
            due("ball of " + s, x.streetOf(s, 4), balls[s]);
            for (int i = 0; i < hours.length; i++) {
                for (int hour : hours[i]) {
                    x.sets(0, hour);
                    due("hard of " + s + " at " + hour, x.streetOf(s, 3), hard[i][s]);
                }
            }
        }
        refused(x, "street 6", 0, x.streetOf(6, 0), -1);
        refused(x, "street -1", 1, x.streetOf(-1, 5), -1);
        refused(x, "what 5", 0, x.streetOf(0, 5), -2);
        refused(x, "what -1", 1, x.streetOf(5, -1), -2);
    }

    private static void learnerOf() {
        WhichWayRound x = aTown();
        due("skill", x.learnerOf(2, 0), 6);
        due("none known", x.learnerOf(2, 1), 0);
        x.knows(2, 5);
        x.knows(2, 0);
        due("known", x.learnerOf(2, 1), 33);
        due("another's", x.learnerOf(1, 1), 0);
        refused(x, "learner 3", 0, x.learnerOf(3, 2), -1);
        refused(x, "learner -1", 1, x.learnerOf(-1, 0), -1);
        refused(x, "what 2", 0, x.learnerOf(0, 2), -2);
        refused(x, "what -1", 1, x.learnerOf(0, -1), -2);
    }

    private static void street() {
        WhichWayRound x = new WhichWayRound();
        refused(x, "kind 6", 0, x.street(6, -1, 0), -2);
        refused(x, "kind -1", 1, x.street(-1, 0, 1), -2);
        refused(x, "figure -1", 0, x.street(0, -1, 10), -4);
        refused(x, "minutes 0", 1, x.street(0, 10, 0), -4);
        refused(x, "figure 10", 0, x.street(0, 10, 1), -6);
        refused(x, "minutes 10", 1, x.street(0, 0, 10), -6);
        due("least", x.street(0, 0, 1), 0);
        due("greatest", x.street(5, 9, 9), 1);
        for (int i = 2; i < 8; i++) {
            due("street " + i, x.street(1, 1, 1), i);
        }
        refused(x, "street 8", 2, x.street(0, 0, 1), -6);
        refused(x, "kind 6, without room", 2, x.street(6, 0, 1), -2);
        refused(x, "minutes 0, without room", 2, x.street(0, 0, 0), -4);
        due("streets", x.count(0), 8);
    }

    private static void way() {
        WhichWayRound x = new WhichWayRound();
        refused(x, "way 0", 0, x.way(0), -4);
        refused(x, "way least", 1, x.way(SMALL), -4);
        refused(x, "way without streets", 0, x.way(1), -6);
        x.street(0, 0, 1);
        x.street(0, 0, 1);
        refused(x, "way 4", 1, x.way(4), -6);
        refused(x, "way greatest", 2, x.way(GREAT), -6);
        for (int i = 0; i < 6; i++) {
            due("way " + i, x.way(i % 3 + 1), i);
        }
        refused(x, "way the 7.", 3, x.way(1), -6);
        refused(x, "way 0, without room", 2, x.way(0), -4);
        due("ways", x.count(1), 6);
    }

    private static void learner() {
        WhichWayRound x = new WhichWayRound();
        refused(x, "skill -1", 0, x.learner(-1), -4);
        refused(x, "skill 10", 0, x.learner(10), -6);
        for (int i = 0; i < 5; i++) {
            due("learner " + i, x.learner(i == 4 ? 9 : i), i);
        }
        refused(x, "learner the 6.", 1, x.learner(0), -6);
        refused(x, "skill -1, without room", 1, x.learner(-1), -4);
        due("skill", x.learnerOf(4, 0), 9);
        due("learners", x.count(2), 5);
    }

    private static void tests() {
        WhichWayRound x = aTown();
        due("passes, 5 faults in one", x.tests(0, 1), 1);
        due("known", x.learnerOf(0, 1), 56);
        due("12 faults", x.tests(1, 0), 0);
        due("known, too", x.learnerOf(1, 1), 7);
        due("6 faults, known as they are", x.tests(1, 0), 1);
        x.sets(1, 5);
        due("above the limit", x.tests(1, 0), 0);
        x.sets(1, 6);
        due("at the limit", x.tests(1, 0), 1);
        x.sets(1, 99);
        due("8 in one street", x.tests(1, 1), 0);
        refused(x, "learner 3", 0, x.tests(3, 0), -1);
        refused(x, "learner -1", 1, x.tests(-1, 0), -1);
        refused(x, "way 4", 2, x.tests(0, 4), -1);
        refused(x, "way -1", 3, x.tests(0, -1), -1);
        WhichWayRound y = new WhichWayRound();
        y.street(0, 5, 1);
        y.street(0, 6, 1);
        y.way(1);
        y.way(2);
        y.learner(0);
        due("5 in one", y.tests(0, 0), 1);
        due("6 in one", y.tests(0, 1), 0);
    }

    private static void knows() {
        WhichWayRound x = aTown();
        due("known", x.knows(0, 3), 1);
        due("not any more", x.knows(0, 3), 0);
        due("again", x.knows(0, 3), 1);
        due("another", x.knows(0, 0), 1);
        due("both", x.learnerOf(0, 1), 9);
        refused(x, "learner 3", 0, x.knows(3, 0), -1);
        refused(x, "learner -1", 1, x.knows(-1, 0), -1);
        refused(x, "street 6", 2, x.knows(0, 6), -1);
        refused(x, "street -1", 3, x.knows(0, -1), -1);
    }

    private static void sets() {
        WhichWayRound x = new WhichWayRound();
        due("hour was", x.sets(0, 23), 8);
        due("hour was then", x.sets(0, 0), 23);
        due("limit was", x.sets(1, 99), 11);
        due("limit was then", x.sets(1, 0), 99);
        due("hour", x.count(3), 0);
        due("limit", x.count(4), 0);
        refused(x, "what 2", 0, x.sets(2, -1), -2);
        refused(x, "what -1", 1, x.sets(-1, 100), -2);
        refused(x, "hour -1", 0, x.sets(0, -1), -4);
        refused(x, "limit -1", 1, x.sets(1, -1), -4);
        refused(x, "hour 24", 0, x.sets(0, 24), -6);
        refused(x, "limit 100", 1, x.sets(1, 100), -6);
    }

    private static void day() {
        WhichWayRound x = aTown();
        x.sets(0, 17);
        x.tests(0, 3);
        x.knows(1, 0);
        due("day", x.day(), 1);
        due("hour", x.count(3), 8);
        due("the greatest is forgotten", x.learnerOf(0, 1), 31);
        due("the only one is forgotten", x.learnerOf(1, 1), 0);
        due("none to forget", x.learnerOf(2, 1), 0);
        due("the day after", x.day(), 2);
        due("the next is forgotten", x.learnerOf(0, 1), 15);
        WhichWayRound y = new WhichWayRound();
        for (int i = 0; i < 8; i++) {
            y.street(0, 1, 1);
        }
        y.learner(0);
        y.knows(0, 7);
        y.knows(0, 6);
        y.day();
        due("street 7 is forgotten first", y.learnerOf(0, 1), 64);
        due("a day back", x.back(), 4);
        due("known again", x.learnerOf(0, 1), 31);
    }

    private static void back() {
        WhichWayRound x = aTown();
        refused(x, "none", 0, x.back(), -3);
        x.tests(0, 0);
        x.knows(0, 0);
        x.sets(0, 16);
        x.sets(1, 50);
        x.sets(1, 50);
        x.day();
        due("six", x.count(9), 6);
        due("a day back", x.back(), 5);
        due("hour of it", x.count(3), 16);
        due("day of it", x.count(5), 0);
        due("known of it", x.learnerOf(0, 1), 6);
        due("as it was, too", x.back(), 4);
        due("limit stays", x.count(4), 50);
        due("limit back", x.back(), 3);
        due("limit", x.count(4), 11);
        due("hour back", x.back(), 2);
        due("hour", x.count(3), 8);
        due("known back", x.back(), 1);
        due("known again", x.learnerOf(0, 1), 7);
        due("test back", x.back(), 0);
        due("not known", x.learnerOf(0, 1), 0);
        refused(x, "none any more", 1, x.back(), -3);
        for (int i = 1; i <= 10; i++) {
            x.sets(1, i);
            due("can be taken back", x.count(9), Math.min(i, 8));
        }
        x.sets(1, 100);
        x.tests(9, 9);
        x.knows(9, 9);
        due("refused ones are none", x.count(9), 8);
        for (int i = 9; i >= 2; i--) {
            due("back", x.back(), i - 2);
            due("limit back", x.count(4), i);
        }
        refused(x, "older ones no more", 2, x.back(), -3);
    }

    private static void backOfAll() {
        WhichWayRound x = aTown();
        due("one that fails", x.tests(1, 3), 0);
        due("counts", x.count(9), 1);
        x.knows(2, 4);
        x.sets(0, 0);
        due("hour 0 was", x.sets(0, 9), 0);
        due("counts, too", x.count(9), 4);
        x.day();
        x.day();
        x.knows(2, 4);
        x.knows(2, 5);
        due("known", x.learnerOf(2, 1), 48);
        due("back", x.back(), 7);
        due("another's known back", x.learnerOf(2, 1), 16);
        due("back", x.back(), 6);
        due("forgotten", x.learnerOf(2, 1), 0);
        due("twice forgotten", x.learnerOf(1, 1), 15);
        due("back", x.back(), 5);
        due("the day before", x.count(5), 1);
        due("once forgotten", x.learnerOf(1, 1), 31);
        due("back", x.back(), 4);
        due("before all days", x.count(5), 0);
        due("hour", x.count(3), 9);
        due("all known", x.learnerOf(1, 1), 63);
        due("one known", x.learnerOf(2, 1), 16);
        due("back", x.back(), 3);
        due("hour 0 back", x.count(3), 0);
        due("back", x.back(), 2);
        due("back", x.back(), 1);
        due("not known back", x.learnerOf(2, 1), 0);
        due("back", x.back(), 0);
        due("the test back", x.learnerOf(1, 1), 0);
        x.sets(0, 13);
        due("held anew", x.count(9), 1);
        x.back();
        due("hour held anew", x.count(3), 8);
    }

    private static void backOfTheLastLearner() {
        WhichWayRound x = aTown();
        x.learner(0);
        x.learner(0);
        for (int s = 0; s < 6; s++) {
            x.knows(4, s);
        }
        for (int s = 5; s >= 0; s--) {
            due("back", x.back(), s);
            due("known before " + s, x.learnerOf(4, 1), (1 << s) - 1);
        }
    }

    private static void whatLeavesNone() {
        WhichWayRound x = aTown();
        x.image();
        x.sets(1, 5);
        x.street(9, 1, 1);
        x.way(0);
        x.learner(-1);
        x.town();
        told(x, "h99;", -2000);
        due("refused or faulty, they leave it", x.count(9), 1);
        x.street(0, 1, 1);
        due("street leaves none", x.count(9), 0);
        x.sets(1, 5);
        x.way(1);
        due("way leaves none", x.count(9), 0);
        x.sets(1, 5);
        x.learner(1);
        due("learner leaves none", x.count(9), 0);
        x.sets(1, 5);
        told(x, "h09;", 1);
        due("a town leaves none", x.count(9), 0);
        x.sets(1, 5);
        x.image();
        due("an image leaves it", x.count(9), 1);
        x.restore();
        due("restore leaves none", x.count(9), 0);
        WhichWayRound z = new WhichWayRound();
        z.sets(1, 5);
        z.street(0, 1, 1);
        due("street 0 leaves none", z.count(9), 0);
        z.sets(1, 5);
        z.way(1);
        due("way 0 leaves none", z.count(9), 0);
        z.sets(1, 5);
        z.learner(1);
        due("learner 0 leaves none", z.count(9), 0);
        refused(z, "none to take back", 0, z.back(), -3);
        WhichWayRound y = aTown();
        y.sets(1, 5);
        y.restore();
        due("restore refused leaves it", y.count(9), 1);
    }

    private static void wayOf() {
        WhichWayRound x = aTown();
        int[][] answers = {{7, 9, 12, 7}, {56, 15, 14, 56}, {21, 13, 11, 21}, {63, 24, 26, 63}};
        int[] at15 = {14, 16, 13, 30};
        for (int way = 0; way < 4; way++) {
            for (int what = 0; what < 4; what++) {
                due("way " + way + " what " + what, x.wayOf(way, 8, what), answers[way][what]);
            }
            due("way " + way + " at 15", x.wayOf(way, 15, 2), at15[way]);
        }
        refused(x, "way 4", 0, x.wayOf(4, 8, 9), -1);
        refused(x, "way -1", 1, x.wayOf(-1, 8, 0), -1);
        refused(x, "hour 24", 2, x.wayOf(0, 24, 0), -1);
        refused(x, "hour -1", 3, x.wayOf(0, -1, 9), -1);
        refused(x, "what 4", 0, x.wayOf(0, 23, 4), -2);
        refused(x, "what -1", 1, x.wayOf(0, 0, -1), -2);
        WhichWayRound y = new WhichWayRound();
        y.street(5, 1, 1);
        y.street(5, 1, 1);
        y.street(0, 1, 1);
        y.way(3);
        due("kinds are not the streets' numbers", y.wayOf(0, 8, 3), 32);
    }

    private static void faults() {
        WhichWayRound x = aTown();
        due("at 8", x.faults(0, 3, 8, 0), 8);
        due("at 12", x.faults(0, 3, 12, 0), 4);
        due("at 15", x.faults(0, 3, 15, 0), 12);
        due("passes at 8", x.faults(0, 3, 8, 1), 1);
        due("not at 15", x.faults(0, 3, 15, 1), 0);
        due("too many in one", x.faults(1, 1, 8, 1), 0);
        due("the worst", x.faults(0, 3, 8, 2), 3);
        due("the worst, of several", x.faults(0, 0, 8, 2), 0);
        due("the worst without faults", x.faults(2, 1, 12, 2), 3);
        due("none below 0", x.faults(2, 3, 12, 0), 0);
        x.knows(0, 3);
        due("half, cut", x.faults(0, 3, 8, 0), 5);
        due("half of 1 is none", x.faults(0, 1, 12, 0), 0);
        refused(x, "learner 3", 0, x.faults(3, 0, 8, 3), -1);
        refused(x, "way 4", 1, x.faults(0, 4, 8, 0), -1);
        refused(x, "hour 24", 2, x.faults(0, 0, 24, 0), -1);
        refused(x, "all below", 3, x.faults(-1, -1, -1, -1), -1);
        refused(x, "what 3", 0, x.faults(0, 0, 8, 3), -2);
        refused(x, "what -1", 1, x.faults(0, 0, 8, -1), -2);
    }

    private static void bestHour() {
        WhichWayRound x = aTown();
        due("best", x.bestHour(0, 3, 0), 0);
        due("all hours but 15", x.bestHour(0, 3, 1), 0xffffff & ~(1 << 15));
        due("not at 8, 15, 16, 17", x.bestHour(1, 1, 1), 0xffffff & ~(1 << 8 | 7 << 15));
        due("none", x.bestHour(1, 3, 1), 0);
        due("all", x.bestHour(2, 3, 1), 0xffffff);
        refused(x, "learner 3", 0, x.bestHour(3, 0, 2), -1);
        refused(x, "way 4", 1, x.bestHour(0, 4, 0), -1);
        refused(x, "what 2", 0, x.bestHour(0, 0, 2), -2);
        refused(x, "what -1", 1, x.bestHour(0, 0, -1), -2);
    }

    private static void easiest() {
        WhichWayRound x = aTown();
        due("easiest at 8", x.easiest(0, 8, 0), 2);
        due("easiest at 12", x.easiest(0, 12, 0), 1);
        due("easiest, of several", x.easiest(2, 12, 0), 0);
        due("ways at 8", x.easiest(0, 8, 1), 15);
        due("ways at 15", x.easiest(0, 15, 1), 7);
        due("ways of another at 8", x.easiest(1, 8, 1), 4);
        refused(x, "learner 3", 0, x.easiest(3, 8, 2), -1);
        refused(x, "hour 24", 1, x.easiest(0, 24, 0), -1);
        refused(x, "what 2", 0, x.easiest(0, 8, 2), -2);
        WhichWayRound y = new WhichWayRound();
        y.learner(1);
        due("no ways", y.easiest(0, 8, 0), -9);
        due("no ways passed", y.easiest(0, 8, 1), 0);
    }

    private static void learn() {
        WhichWayRound x = aTown();
        due("nothing to learn", x.learn(0, 0, 8), 0);
        // 12 faults: any one street halved does, the least.
        due("one of several", x.learn(1, 0, 8), 1);
        // The school's 8 must be halved: 4 + 3 + 3 are 10 then.
        due("the school", x.learn(1, 1, 8), 8);
        // 26 faults: the school halved leaves 22; two of the fours more leave 18, ..: 4 4 4 8 3 3 as 2 2 2 4 1 1 are 12.
        due("not with all", x.learn(1, 3, 8), -9);
        x.sets(1, 12);
        due("all", x.learn(1, 3, 8), 63);
        due("all ways need as much", x.learn(1, -1, 8), 63);
        x.sets(1, 11);
        due("all ways, not with all", x.learn(1, -1, 8), -9);
        due("all ways, nothing", x.learn(0, -1, 8), 0);
        // 12 faults at 15, the ring's 3, the school's 5 and the crown's 2 among them: the first halved leaves 11.
        due("all ways, one", x.learn(0, -1, 15), 1);
        x.knows(1, 0);
        due("what is known is not learnt", x.learn(1, 0, 8), 0);
        refused(x, "learner 3", 0, x.learn(3, -1, 8), -1);
        refused(x, "way 4", 1, x.learn(0, 4, 8), -1);
        refused(x, "way -2", 2, x.learn(0, -2, 8), -1);
        refused(x, "hour 24", 3, x.learn(0, 0, 24), -1);
        refused(x, "hour -1", 4, x.learn(0, -1, -1), -1);
        WhichWayRound y = new WhichWayRound();
        y.learner(0);
        due("no ways", y.learn(0, -1, 8), 0);
        refused(y, "no way 0", 0, y.learn(0, 0, 8), -1);
    }

    private static void drawnWay() {
        WhichWayRound x = aTown();
        due("all of 4", x.drawnWay(0, 8, 0), 1);
        due("below", x.drawnWay(0, 8, 1), 1);
        due("3 of 4", x.drawnWay(0, 15, 0), 3);
        due("of 4", x.drawnWay(0, 15, 1), 4);
        due("2 of 4", x.drawnWay(1, 12, 0), 1);
        due("lowest terms", x.drawnWay(1, 12, 1), 2);
        due("0 of 4", x.drawnWay(1, 15, 0), 0);
        due("over 1", x.drawnWay(1, 15, 1), 1);
        due("learner 3", x.drawnWay(3, 8, 2), LONG + 1);
        due("hour 24", x.drawnWay(0, 24, 0), LONG + 1);
        due("part 2", x.drawnWay(0, 8, 2), LONG + 2);
        due("part -1", x.drawnWay(0, 8, -1), LONG + 2);
        due("-1 counted", x.count(11), 2);
        due("-2 counted", x.count(12), 2);
        WhichWayRound y = new WhichWayRound();
        y.learner(0);
        due("no ways above", y.drawnWay(0, 8, 0), 0);
        due("no ways below", y.drawnWay(0, 8, 1), 1);
    }

    private static void alikeTwo() {
        WhichWayRound x = aTown();
        due("none", x.alike(0, 1), 0);
        due("two", x.alike(2, 0), 2);
        due("three", x.alike(3, 1), 3);
        refused(x, "one twice", 0, x.alike(1, 1), -1);
        refused(x, "way 4", 1, x.alike(4, 0), -1);
        refused(x, "way -1", 2, x.alike(0, -1), -1);
        due("0 and 3, the first with three", x.mostAlike(), 3);
        WhichWayRound y = new WhichWayRound();
        due("no two", y.mostAlike(), -9);
        y.street(0, 1, 1);
        y.street(0, 1, 1);
        y.way(1);
        due("no two yet", y.mostAlike(), -9);
        y.way(2);
        due("two with nothing alike", y.mostAlike(), 1);
        y.way(2);
        due("the later two", y.mostAlike(), 12);
    }

    private static void fair() {
        WhichWayRound x = aTown();
        due("all at 8", x.fair(8, 0), 15);
        due("all at 12", x.fair(12, 0), 12);
        due("one", x.fair(8, 1), 1);
        // 12 14 11 26: 12 and 11 are nearest.
        due("two at 8", x.fair(8, 2), 5);
        // 12 10 11 22: 12 and 11 are as near as 10 and 11.
        due("two at 12", x.fair(12, 2), 5);
        due("three", x.fair(8, 3), 7);
        due("four", x.fair(8, 4), 15);
        due("five", x.fair(8, 5), -9);
        due("six", x.fair(23, 6), -9);
        refused(x, "hour 24", 0, x.fair(24, -1), -1);
        refused(x, "hour -1", 1, x.fair(-1, 7), -1);
        refused(x, "k -1", 0, x.fair(0, -1), -4);
        refused(x, "k 7", 0, x.fair(0, 7), -6);
        WhichWayRound z = new WhichWayRound();
        z.street(0, 0, 1);
        z.street(4, 1, 1);
        z.way(1);
        z.way(2);
        due("both without hard", z.fair(8, 0), 0);
        z.street(0, 1, 1);
        z.way(4);
        due("one apart", z.fair(8, 0), 1);
        WhichWayRound y = new WhichWayRound();
        y.street(0, 9, 1);
        y.way(1);
        due("fewer than two", y.fair(8, 0), 0);
        due("set of the one", y.fair(8, 1), 1);
    }

    private static void moped() {
        WhichWayRound x = aTown();
        due("behind none", x.moped(0, 0), 0);
        due("behind one", x.moped(1, 0), 7);
        due("behind two", x.moped(2, 0), 63);
        due("behind sixty", x.moped(60, 0), 63);
        due("fewest", x.moped(60, 1), 2);
        due("fewest, whatever n", x.moped(0, 1), 2);
        refused(x, "n -1", 0, x.moped(-1, 2), -4);
        refused(x, "n 61", 0, x.moped(61, 2), -6);
        refused(x, "what 2", 0, x.moped(0, 2), -2);
        refused(x, "what -1", 1, x.moped(0, -1), -2);
        WhichWayRound y = new WhichWayRound();
        due("no ways", y.moped(9, 0), 0);
        due("no ways, fewest", y.moped(9, 1), 0);
        y.street(0, 1, 1);
        y.street(0, 1, 1);
        y.street(0, 1, 1);
        y.way(1);
        y.way(1);
        y.way(2);
        y.way(3);
        due("not all streets, but all of ways", y.moped(0, 1), 3);
    }

    private static void made() {
        WhichWayRound x = aTown();
        due("nearest to 4", x.made(0, 72, 4), 1);
        due("nearest to 8", x.made(0, 72, 8), 3);
        due("nearest to 0 is a 3", x.made(0, 72, 0), 16);
        due("in 2 minutes", x.made(0, 2, 99), 4);
        due("in 1 minute", x.made(0, 1, 0), 4);
        due("with a school", x.made(8, 72, 0), 8);
        due("with street and crown", x.made(33, 72, 8), 33);
        due("with all", x.made(63, 72, 0), 63);
        due("with all, too long", x.made(63, 23, 0), -9);
        x.sets(0, 16);
        due("at another hour", x.made(8, 72, 0), 8);
        due("at another hour nearest to 6", x.made(0, 72, 6), 4);
        refused(x, "kinds -1", 0, x.made(-1, 73, 100), -4);
        refused(x, "m 0", 1, x.made(64, 0, 0), -4);
        refused(x, "v -1", 2, x.made(0, 1, -1), -4);
        refused(x, "kinds 64", 0, x.made(64, 1, 0), -6);
        refused(x, "m 73", 1, x.made(0, 73, 0), -6);
        refused(x, "v 100", 2, x.made(0, 1, 100), -6);
        WhichWayRound y = new WhichWayRound();
        due("no streets", y.made(0, 72, 0), -9);
        y.street(0, 3, 1);
        y.street(0, 5, 1);
        due("of several the least", y.made(1, 1, 4), 1);
        due("kind not there", y.made(2, 72, 4), -9);
    }

    private static void unlike() {
        WhichWayRound x = aTown();
        due("all kinds and nothing both", x.unlike(), 1);
        WhichWayRound y = new WhichWayRound();
        due("no two", y.unlike(), -9);
        y.street(0, 1, 1);
        y.street(1, 1, 1);
        y.street(0, 1, 1);
        y.way(1);
        y.way(4);
        due("not all kinds", y.unlike(), -9);
        y.way(3);
        // 0 and 2 have a street both; 1 and 2 none.
        due("fewest both", y.unlike(), 12);
        y.way(2);
        // 0 and 3 have none both, too, and come first.
        due("of several the first", y.unlike(), 3);
    }

    private static void unlikeWithMuchAlike() {
        WhichWayRound x = new WhichWayRound();
        x.street(0, 1, 1);
        x.street(1, 1, 1);
        x.way(3);
        due("one is no two", x.unlike(), -9);
        x.way(1);
        due("a kind that both have counts", x.unlike(), 1);
        x.way(2);
        due("two that have all kinds together alone", x.unlike(), 12);
    }

    private static void strict() {
        WhichWayRound x = aTown();
        // Faults on way 2 at 8 are 2, 11, 0; none above 5 in a street.
        due("nothing told", x.strict(2, 0), 100);
        due("nothing told, least", x.strict(2, 1), 0);
        due("nothing told, hours", x.strict(2, 2), 0xffffff);
        numbers(x, 1, 0, 2);
        due("from 2 below 11", x.strict(2, 0), 9);
        due("least 2", x.strict(2, 1), 2);
        // At 15, 16, 17 the ring's 6 are too many for learner 1, who passes with 11 else.
        due("hours", x.strict(2, 2), 7 << 15);
        due("the row stays", x.count(8), 3);
        numbers(x, 0, 1);
        due("not so", x.strict(2, 0), 0);
        due("not so, least", x.strict(2, 1), -9);
        numbers(x, 1, 1, 1);
        due("from 11", x.strict(2, 0), 89);
        due("least 11", x.strict(2, 1), 11);
        due("hours of all", x.strict(2, 2), 0xffffff & ~(7 << 15));
        // On way 1 at 8 learner 1 has 8 in the school: with no limit.
        numbers(x, 2, 1);
        due("by no limit", x.strict(1, 0), 0);
        numbers(x, 2, 0);
        due("by every limit", x.strict(1, 0), 100);
        // 4 and 3 faults at all hours.
        WhichWayRound y = new WhichWayRound();
        y.street(0, 4, 1);
        y.way(1);
        y.learner(0);
        y.learner(1);
        numbers(y, 0, 1);
        due("one limit", y.strict(0, 0), 1);
        due("that one", y.strict(0, 1), 3);
        due("not with 11", y.strict(0, 2), 0);
        y.sets(1, 3);
        due("with 3", y.strict(0, 2), 0xffffff);
        numbers(y, 0, 0);
        due("below 3", y.strict(0, 0), 3);
        numbers(y, 0, 2);
        due("below 4", y.strict(0, 0), 4);
        numbers(y, 0);
        due("the first alone, hours", y.strict(0, 2), 0xffffff);
        numbers(y, 1);
        due("the first alone, no hours", y.strict(0, 2), 0);
        numbers(y, 5, 5);
        numbers(y);
        due("numbers that were are none", y.strict(0, 0), 100);
        numbers(y, 3);
        refused(y, "the first above 2", 0, y.strict(0, 0), -3);
        numbers(x, 2, 2, 3);
        refused(x, "above 2", 0, x.strict(0, 0), -3);
        numbers(x, 2, 2, 2, 2);
        refused(x, "more than learners", 1, x.strict(0, 2), -3);
        refused(x, "what 3", 0, x.strict(0, 3), -2);
        refused(x, "what -1", 1, x.strict(0, -1), -2);
        refused(x, "way 4", 0, x.strict(4, 3), -1);
        refused(x, "way -1", 1, x.strict(-1, 0), -1);
        due("the row stays, refused", x.count(8), 4);
    }

    private static void queue() {
        WhichWayRound x = aTown();
        x.sets(0, 14);
        // Way 3 with limit 11: learner 0 passes at 14, 16 not at 15; 2 always; 1 never.
        due("two pass", x.queue(3, -1), 2);
        due("first", x.queue(3, 0), 0);
        due("second", x.queue(3, 1), 1);
        due("third", x.queue(3, 2), 2);
        due("fourth", x.queue(3, 3), -9);
        due("very late", x.queue(3, GREAT), -9);
        x.sets(0, 15);
        due("two pass from 15", x.queue(3, -1), 2);
        due("0 may not be first", x.queue(3, 0), 1);
        due("0 is second", x.queue(3, 1), 0);
        due("2 is third", x.queue(3, 2), 2);
        x.sets(0, 23);
        // Way 1: learner 1 passes at 23, 0 and 1 o'clock.
        due("round", x.queue(1, -1), 3);
        due("round, third", x.queue(1, 2), 2);
        // From 17 way 2: learner 1 has the ring's 6 then, and 11 at 18.
        x.sets(0, 17);
        due("1 later", x.queue(2, -1), 3);
        due("0 ahead", x.queue(2, 0), 0);
        due("1 behind", x.queue(2, 1), 1);
        // From 14: 14 is the last hour before the ring's 6.
        x.sets(0, 14);
        due("1 at once", x.queue(2, -1), 3);
        due("1 ahead", x.queue(2, 0), 1);
        due("0 then", x.queue(2, 1), 0);
        due("2 last", x.queue(2, 2), 2);
        refused(x, "way 4", 0, x.queue(4, -2), -1);
        refused(x, "i -2", 0, x.queue(0, -2), -4);
        WhichWayRound y = new WhichWayRound();
        y.street(0, 1, 1);
        y.way(1);
        due("nobody", y.queue(0, -1), 0);
        due("nobody first", y.queue(0, 0), -9);
        y.learner(0);
        due("one passes", y.queue(0, -1), 1);
        due("the one", y.queue(0, 0), 0);
        due("no second", y.queue(0, 1), -9);
    }

    private static void lessons() {
        WhichWayRound x = aTown();
        due("none", x.lessons(0, 3, 8), 0);
        due("one", x.lessons(1, 0, 8), 1);
        // At 8 way 1: 8 3 3 with the first shown 4 3 3.
        due("the school first", x.lessons(1, 1, 8), 1);
        due("not with all", x.lessons(1, 3, 8), -9);
        x.sets(1, 12);
        due("with all", x.lessons(1, 3, 8), 6);
        x.knows(1, 0);
        due("with all but the known", x.lessons(1, 3, 8), 5);
        x.sets(1, 10);
        due("none at the limit", x.lessons(1, 1, 12), 0);
        x.sets(1, 9);
        due("one below the limit", x.lessons(1, 1, 12), 1);
        refused(x, "learner 3", 0, x.lessons(3, 0, 8), -1);
        refused(x, "way 4", 1, x.lessons(0, 4, 8), -1);
        refused(x, "hour 24", 2, x.lessons(0, 0, 24), -1);
        refused(x, "hour -1", 3, x.lessons(0, 0, -1), -1);
    }

    private static void ball() {
        WhichWayRound x = aTown();
        // Way 1 at 8, learner 0: 5 0 0 with balls of 4, 0, 3: passes without a ball in the school.
        due("no ball in the school", x.ball(0, 1, 4, 0), 3);
        due("of 4", x.ball(0, 1, 4, 1), 4);
        // Way 0, learner 0: 1 1 1 with balls of 1, 1, 3 are 8 at most.
        due("always", x.ball(0, 0, 20, 0), 1);
        due("always, below", x.ball(0, 0, 20, 1), 1);
        x.sets(1, 6);
        // 3 and balls: not with the ring's 3 and another: 1/3 of 1 - 4/9.
        due("not with two", x.ball(0, 0, 3, 0), 22);
        due("not with two, below", x.ball(0, 0, 3, 1), 27);
        due("never", x.ball(1, 3, 2, 0), 0);
        due("never, below", x.ball(1, 3, 2, 1), 1);
        due("learner 3", x.ball(3, 0, 1, 2), LONG + 1);
        due("way 4", x.ball(0, 4, 21, 2), LONG + 1);
        due("t 1", x.ball(0, 0, 1, 2), LONG + 4);
        due("t 21", x.ball(0, 0, 21, 2), LONG + 6);
        due("part 2", x.ball(0, 0, 2, 2), LONG + 2);
        due("part -1", x.ball(0, 0, 20, -1), LONG + 2);
        due("-1 counted", x.count(11), 2);
        due("-2 counted", x.count(12), 2);
        due("-4 counted", x.count(14), 1);
        due("-6 counted", x.count(16), 1);
        WhichWayRound y = new WhichWayRound();
        for (int i = 0; i < 8; i++) {
            y.street(3, 0, 1);
        }
        y.way(255);
        y.learner(3);
        y.sets(0, 9);
        y.sets(1, 4);
        // One ball of 4 at most: 19^8 + 8 * 19^7 of 20^8.
        due("long", y.ball(0, 0, 20, 0), 16983563041L + 8 * 893871739L);
        due("long, below", y.ball(0, 0, 20, 1), 25600000000L);
    }

    private static void crowded() {
        WhichWayRound x = aTown();
        // Streets 0, 2, 4 are in three ways each.
        due("of several the least", x.crowded(0), 0);
        due("in three", x.crowded(1), 3);
        due("none free", x.crowded(2), 0);
        x.street(0, 1, 1);
        due("free", x.crowded(2), 64);
        refused(x, "what 3", 0, x.crowded(3), -2);
        refused(x, "what -1", 1, x.crowded(-1), -2);
        WhichWayRound y = new WhichWayRound();
        due("no streets", y.crowded(0), -9);
        due("no streets, in none", y.crowded(1), 0);
        y.street(0, 1, 1);
        y.street(0, 1, 1);
        due("in no way", y.crowded(0), 0);
        due("in none", y.crowded(1), 0);
        due("both free", y.crowded(2), 3);
        y.way(2);
        due("the one in a way", y.crowded(0), 1);
        due("in one", y.crowded(1), 1);
        due("the other is free", y.crowded(2), 1);
    }

    private static void rank() {
        WhichWayRound x = aTown();
        due("first", x.rank(0, 0), 2);
        due("second", x.rank(0, 1), 0);
        due("third", x.rank(0, 2), 1);
        due("fourth", x.rank(0, 3), -9);
        due("very late", x.rank(0, GREAT), -9);
        x.learner(6);
        due("of several the least", x.rank(0, 0), 2);
        due("then the next", x.rank(0, 1), 3);
        refused(x, "way 4", 0, x.rank(4, -1), -1);
        refused(x, "i -1", 0, x.rank(0, -1), -4);
    }

    private static void skillWanted() {
        WhichWayRound x = aTown();
        // Way 0 at 8: 4 4 4 are 12 with skill 0, 9 with 1.
        due("1", x.skillWanted(0, 0, 8), 1);
        // Way 1 at 8: 8 3 3: 7 2 2, 6 1 1, 5 0 0.
        due("3 by the street's 5", x.skillWanted(1, 1, 8), 3);
        due("0", x.skillWanted(1, 1, 12), 0);
        x.knows(0, 0);
        due("0 by what is known", x.skillWanted(0, 0, 8), 0);
        x.knows(0, 0);
        x.sets(1, 9);
        due("1 at the limit", x.skillWanted(0, 0, 8), 1);
        x.sets(1, 8);
        due("2 below the limit", x.skillWanted(0, 0, 8), 2);
        x.sets(1, 11);
        refused(x, "learner 3", 0, x.skillWanted(3, 0, 8), -1);
        refused(x, "way 4", 1, x.skillWanted(0, 4, 8), -1);
        refused(x, "hour 24", 2, x.skillWanted(0, 0, 24), -1);
        WhichWayRound y = new WhichWayRound();
        y.street(3, 9, 1);
        y.way(1);
        y.learner(9);
        due("with none", y.skillWanted(0, 0, 8), -9);
        y.street(0, 9, 1);
        y.way(2);
        y.sets(1, 0);
        due("9", y.skillWanted(0, 1, 8), 9);
        y.sets(1, 1);
        due("8", y.skillWanted(0, 1, 8), 8);
        y.sets(1, 11);
        y.knows(0, 0);
        // 22 less 9 are 13, half of it 6.
        due("with none, though known", y.skillWanted(0, 0, 8), -9);
        due("at 9 o'clock 11 less 0, half", y.skillWanted(0, 0, 9), 0);
    }

    private static void limitWanted() {
        WhichWayRound x = aTown();
        due("8 in a street", x.limitWanted(), -9);
        x.sets(0, 12);
        due("22 of learner 1 on way 3", x.limitWanted(), 22);
        x.tests(1, 3);
        due("11 then", x.limitWanted(), 10);
        due("the limit stays", x.count(4), 11);
        WhichWayRound y = new WhichWayRound();
        due("nobody", y.limitWanted(), 0);
        y.street(0, 9, 1);
        y.way(1);
        due("nobody on a way", y.limitWanted(), 0);
        y.learner(4);
        due("5", y.limitWanted(), 5);
    }

    private static void rush() {
        WhichWayRound x = aTown();
        due("all from 0", x.rush(1, 0), 0);
        due("three", x.rush(1, 1), 3);
        due("two on way 3", x.rush(3, 1), 2);
        WhichWayRound y = new WhichWayRound();
        y.street(2, 2, 1);
        y.way(1);
        due("nobody", y.rush(0, 0), 0);
        due("nobody, none", y.rush(0, 1), 0);
        y.learner(0);
        y.sets(1, 2);
        due("none passes", y.rush(0, 0), 0);
        due("none, none", y.rush(0, 1), 0);
        refused(x, "way 4", 0, x.rush(4, 2), -1);
        refused(x, "what 2", 0, x.rush(0, 2), -2);
        refused(x, "what -1", 1, x.rush(0, -1), -2);
    }

    private static void newcomer() {
        WhichWayRound x = aTown();
        x.tests(1, 3);
        due("skill 0", x.newcomer(0), 4);
        due("skill 1", x.newcomer(1), 5);
        due("skill 3", x.newcomer(3), 15);
        due("skill 9", x.newcomer(9), 15);
        x.sets(0, 15);
        due("skill 3 at 15", x.newcomer(3), 7);
        refused(x, "skill -1", 0, x.newcomer(-1), -4);
        refused(x, "skill 10", 0, x.newcomer(10), -6);
    }

    private static void gain() {
        WhichWayRound x = aTown();
        // Way 3 at 15 alone is not passed, by 12: each street that loses one gains it.
        due("one hour", x.gain(0, 0), 1);
        due("the yard has none to lose", x.gain(0, 4), 0);
        due("best, of several", x.gain(0, -1), 0);
        x.knows(0, 0);
        due("known", x.gain(0, 0), 0);
        due("best of no gain is the least", x.gain(0, -1), 1);
        // Learner 1 with street 0: way 0 at all but 15 .. 17 is 10; way 2 at 15 .. 17 has the ring's 6: no gain.
        due("21 hours", x.gain(1, 0), 21);
        // The ring: way 0 at all hours (4 4 3), way 2 at 15 .. 17 (4 3 3).
        due("27 hours", x.gain(1, 2), 27);
        due("best", x.gain(1, -1), 2);
        for (int s = 0; s < 6; s++) {
            x.knows(2, s);
        }
        due("all known", x.gain(2, -1), -9);
        x.sets(1, 0);
        due("none passed with any", x.gain(1, -1), 0);
        refused(x, "learner 3", 0, x.gain(3, -1), -1);
        refused(x, "street 6", 1, x.gain(0, 6), -1);
        refused(x, "street -2", 2, x.gain(0, -2), -1);
    }

    private static void career() {
        WhichWayRound x = aTown();
        due("none", x.career(1, 0), 0);
        // Way 0 with 12 fails, way 1 with 8 in the school fails, way 2 with 2 2 1 passes, way 3 with 12 fails.
        due("one fails", x.career(1, 1), 0);
        due("two fail", x.career(1, 2), 0);
        due("the third passes", x.career(1, 3), 1);
        due("the fourth fails", x.career(1, 4), 1);
        due("round", x.career(1, 8), 4);
        due("sixty", x.career(1, 60), 43);
        due("nothing is known by it", x.learnerOf(1, 1), 0);
        x.tests(1, 3);
        due("what is known counts", x.career(1, 2), 2);
        refused(x, "learner 3", 0, x.career(3, -1), -1);
        refused(x, "n -1", 0, x.career(0, -1), -4);
        refused(x, "n 61", 0, x.career(0, 61), -6);
        WhichWayRound y = new WhichWayRound();
        y.learner(0);
        due("no ways", y.career(0, 60), 0);
        y.street(0, 4, 1);
        y.way(1);
        y.sets(1, 3);
        due("one way, 4 once and 2 then", y.career(0, 5), 4);
        y.sets(1, 4);
        due("at the limit", y.career(0, 5), 5);
    }

    private static void toughest() {
        WhichWayRound x = aTown();
        due("ring", x.toughest(0), 15);
        due("all", x.toughest(3), 15);
        x.way(3);
        due("alike at all hours", x.toughest(4), 0);
        x.way(8);
        due("school", x.toughest(5), 8);
        refused(x, "way 6", 0, x.toughest(6), -1);
        refused(x, "way -1", 1, x.toughest(-1), -1);
    }

    private static void equal() {
        WhichWayRound x = aTown();
        due("0 and 2 at 8", x.equal(), 1);
        x.sets(0, 15);
        due("none at 15", x.equal(), 0);
        x.learner(6);
        x.learner(0);
        due("2 and 3, 1 and 4", x.equal(), 2);
        WhichWayRound y = new WhichWayRound();
        due("nobody", y.equal(), 0);
        y.learner(0);
        due("alone", y.equal(), 0);
        y.learner(9);
        y.learner(5);
        due("no ways: all alike", y.equal(), 3);
    }

    private static void longest() {
        WhichWayRound x = aTown();
        due("way 3", x.longest(0), 3);
        due("24 minutes", x.longest(1), 24);
        WhichWayRound z = aTown();
        z.image();
        z.street(0, 0, 9);
        z.way(127);
        due("way 4", z.longest(0), 4);
        due("33 minutes", z.longest(1), 33);
        WhichWayRound v = new WhichWayRound();
        v.street(0, 1, 7);
        v.street(0, 1, 2);
        v.way(1);
        v.way(2);
        due("way 0", v.longest(0), 0);
        due("its minutes", v.longest(1), 7);
        x.way(63);
        due("of several the least", x.longest(0), 3);
        refused(x, "what 2", 0, x.longest(2), -2);
        refused(x, "what -1", 1, x.longest(-1), -2);
        WhichWayRound y = new WhichWayRound();
        due("no ways", y.longest(0), -9);
        due("no ways, minutes", y.longest(1), -9);
    }

    private static void row() {
        WhichWayRound x = new WhichWayRound();
        refused(x, "v -1", 0, x.row(-1), -4);
        refused(x, "v 100", 0, x.row(100), -6);
        for (int i = 1; i <= 12; i++) {
            due("row", x.row(i == 1 ? 0 : 99), i);
        }
        refused(x, "the 13.", 1, x.row(0), -6);
        refused(x, "v -1, without room", 1, x.row(-1), -4);
        due("numbers", x.count(8), 12);
        due("had", x.clear(), 12);
        due("none left", x.count(8), 0);
        due("had none", x.clear(), 0);
    }

    private static void judge() {
        WhichWayRound x = aTown();
        numbers(x, 1, 1, 1, 5, 0, 0);
        due("all so", x.judge(0), -9);
        due("none left", x.count(8), 0);
        due("none told", x.judge(0), -9);
        numbers(x, 1, 1, 0, 5, 1);
        due("the first that is not", x.judge(0), 2);
        due("none left then", x.count(8), 0);
        numbers(x, 1, 1, 1, 5, 0, 0, 0);
        due("no such street", x.judge(0), 6);
        numbers(x, 2, 1);
        due("not the first", x.judge(0), 0);
        x.sets(0, 15);
        x.knows(0, 3);
        numbers(x, 1, 1, 3, 2);
        due("at the hour, known", x.judge(0), -9);
        numbers(x, 7);
        refused(x, "learner 3", 0, x.judge(3), -1);
        refused(x, "learner -1", 1, x.judge(-1), -1);
        due("it stays", x.count(8), 1);
    }

    private static void lots() {
        WhichWayRound x = aTown();
        // Draws 0, 21468; 9988, 22117; 3498, 16927: at 0 on way 0, at 4 on way 1, at 18 on way 3: 3, 10, 0 faults.
        due("all pass", x.lots(1, 0, 0), 3);
        due("with 13", x.lots(1, 0, 1), 13);
        for (int seed : new int[] {0, 1, -1, 77, GREAT, SMALL}) {
            for (int days : new int[] {1, 2, 20}) {
                int z = seed;
                int passed = 0;
                int faults = 0;
                for (int test = 0; test < days * 3; test++) {
                    z = z * 1103515245 + 12345;
                    int hour = (z & GREAT) / 65536 % 24;
                    z = z * 1103515245 + 12345;
                    int way = (z & GREAT) / 65536 % 4;
                    passed += x.faults(test % 3, way, hour, 1);
                    faults += x.faults(test % 3, way, hour, 0);
                }
                due("passed by lot", x.lots(days, seed, 0), passed);
                due("faults by lot", x.lots(days, seed, 1), faults);
                x = aTown();
            }
        }
        due("nothing is known by it", x.learnerOf(1, 1), 0);
        refused(x, "n 0", 0, x.lots(0, 0, 2), -4);
        refused(x, "n 21", 0, x.lots(21, 0, 2), -6);
        refused(x, "what 2", 0, x.lots(1, 0, 2), -2);
        refused(x, "what -1", 1, x.lots(20, 0, -1), -2);
        WhichWayRound y = new WhichWayRound();
        due("nothing", y.lots(20, 1, 1), 0);
        y.learner(0);
        due("no ways", y.lots(20, 1, 1), 0);
        due("no ways passed", y.lots(20, 1, 0), 0);
        y.street(0, 3, 1);
        y.way(1);
        // One learner, one way of 3 faults, whatever the hour.
        due("each passed", y.lots(20, 5, 0), 20);
        due("known from now on each day", y.lots(20, 5, 1), 60);
    }

    private static void image() {
        WhichWayRound x = aTown();
        refused(x, "none", 0, x.restore(), -3);
        x.knows(0, 2);
        x.day();
        x.sets(0, 16);
        x.sets(1, 33);
        x.knows(0, 1);
        due("taken", x.image(), 1);
        x.day();
        x.day();
        x.sets(1, 5);
        x.tests(0, 3);
        x.street(0, 9, 9);
        x.way(64);
        x.learner(9);
        numbers(x, 4, 5);
        x.feed('d');
        x.tests(9, 9);
        int refusals = x.count(11);
        due("restored", x.restore(), 1);
        due("streets", x.count(0), 6);
        due("ways", x.count(1), 4);
        due("learners", x.count(2), 3);
        due("hour", x.count(3), 16);
        due("limit", x.count(4), 33);
        due("day", x.count(5), 1);
        due("known", x.learnerOf(0, 1), 2);
        due("letters are not of it", x.count(7), 1);
        due("the row is not of it", x.count(8), 2);
        due("refusals are not of it", x.count(11), refusals);
        x.learner(8);
        due("a learner anew", x.learnerOf(3, 0), 8);
        due("knows nothing", x.learnerOf(3, 1), 0);
        due("restored again", x.restore(), 1);
        due("learners again", x.count(2), 3);
        x.day();
        due("taken anew", x.image(), 2);
        x.day();
        due("restored to the later", x.restore(), 2);
    }

    private static void count() {
        WhichWayRound x = aTown();
        x.tests(0, 0);
        x.tests(1, 1);
        x.knows(2, 5);
        x.feed(1);
        x.row(1);
        x.row(1);
        int[] counts = {6, 4, 3, 8, 11, 0, 7, 1, 2, 3};
        for (int what = 0; what < counts.length; what++) {
            due("count " + what, x.count(what), counts[what]);
        }
        for (int what : new int[] {-1, 10, 17, GREAT, SMALL}) {
            due("count " + what, x.count(what), -9);
        }
        x.tests(9, 9);
        x.sets(9, 9);
        x.sets(9, 9);
        new WhichWayRound().back();
        due("of -1", x.count(11), 1);
        due("of -2", x.count(12), 2);
        due("of -3", x.count(13), 0);
        due("of -4", x.count(14), 0);
        due("of -5", x.count(15), 0);
        due("of -6", x.count(16), 0);
    }

    public static void main(String[] args) {
        aNewObject();
        feed();
        townOfLetters();
        townFirstFaults();
        townSecondFaults();
        lastDay();
        streetOf();
        learnerOf();
        street();
        way();
        learner();
        tests();
        knows();
        sets();
        day();
        back();
        backOfAll();
        backOfTheLastLearner();
        whatLeavesNone();
        wayOf();
        faults();
        bestHour();
        easiest();
        learn();
        drawnWay();
        alikeTwo();
        fair();
        moped();
        made();
        unlike();
        unlikeWithMuchAlike();
        strict();
        queue();
        lessons();
        ball();
        crowded();
        rank();
        skillWanted();
        limitWanted();
        rush();
        newcomer();
        gain();
        career();
        toughest();
        equal();
        longest();
        row();
        judge();
        lots();
        image();
        count();
        System.out.println("promises: " + right + " answers are as due, " + wrong + " are not");
        if (wrong != 0) {
            System.exit(1);
        }
    }
}
