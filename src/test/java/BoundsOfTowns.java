/** The Terms: a TOWN told in letters, and its FAULTS. */
final class BoundsOfTowns {
    private static final String FIRST_LETTERS = "swlkhtmd";
    /** A statement of each form, as it would come in somewhere. */
    private static final String[] STATEMENTS = {"s043;", "w001;", "l3;", "k00;", "h09;", "t00;", "m10;", "d;"};
    private static final String[] AHEAD = {"", "d;", "l1;h07;", "s999;"};

    private BoundsOfTowns() {
    }

    private static void due(String call, long got, long want) {
        Bounds.due(call, got, want);
    }

    private static WhichWayRound with(String streets, String ways, String skills) {
        return Bounds.with(streets, ways, skills);
    }

    private static void told(String text, int want) {
        due(text, Bounds.told(new WhichWayRound(), text), want);
    }

    /** The fault is told, counted nowhere, and nothing comes of the town. */
    private static void faulty(Bounds.Start start, String text, int want) {
        WhichWayRound x = start.made();
        WhichWayRound twin = start.made();
        Bounds.feed(x, text);
        due(text, x.town(), want);
        for (int what = 11; what <= 16; what++) {
            due(text + ": count " + what, x.count(what), twin.count(what));
        }
        Bounds.same(text, x, twin);
    }

    private static void right(Bounds.Start start, String text, int statements) {
        due(text, Bounds.told(start.made(), text), statements);
    }

    // ---- letters and statements

    static void termTownHas96LettersAtMost() {
        WhichWayRound x = new WhichWayRound();
        due("48 statements", Bounds.told(x, "d;".repeat(48)), 48);
        due("days", x.count(5), 48);
        Bounds.feed(x, "d;".repeat(48) + "d;d;");
        due("letters", x.count(7), 96);
        due("48 statements again", x.town(), 48);
        due("days again", x.count(5), 96);
    }

    static void termTownHasOneStatementAtLeast() {
        due("one", Bounds.told(new WhichWayRound(), "d;"), 1);
        faulty(Bounds::changed, "", -1000);
        faulty(Bounds::empty, "", -1000);
    }

    static void termStatementS() {
        WhichWayRound x = new WhichWayRound();
        due("two", Bounds.told(x, "s599;s001;"), 2);
        due("streets", x.count(0), 2);
        due("kind", x.streetOf(0, 0), 5);
        due("figure", x.streetOf(0, 1), 9);
        due("minutes", x.streetOf(0, 2), 9);
        due("least kind", x.streetOf(1, 0), 0);
        due("least figure", x.streetOf(1, 1), 0);
        due("least minutes", x.streetOf(1, 2), 1);
    }

    static void termStatementW() {
        WhichWayRound x = with("001 001 001 001 001 001 001 001", "", "");
        due("three", Bounds.told(x, "w001;w255;w128;"), 3);
        due("ways", x.count(1), 3);
        due("least", x.wayOf(0, 8, 0), 1);
        due("greatest", x.wayOf(1, 8, 0), 255);
        due("the last street", x.wayOf(2, 8, 0), 128);
    }

    static void termStatementL() {
        WhichWayRound x = new WhichWayRound();
        due("two", Bounds.told(x, "l0;l9;"), 2);
        due("learners", x.count(2), 2);
        due("least", x.learnerOf(0, 0), 0);
        due("greatest", x.learnerOf(1, 0), 9);
        due("none known", x.learnerOf(1, 1), 0);
    }

    static void termStatementK() {
        WhichWayRound x = with("001 001 001 001 001 001 001 001", "", "0 0 0 0 0");
        due("two", Bounds.told(x, "k00;k47;"), 2);
        due("the first of the first", x.learnerOf(0, 1), 1);
        due("the last of the last", x.learnerOf(4, 1), 128);
    }

    static void termStatementKToldAgainIsNotKnown() {
        WhichWayRound x = with("001 001", "", "0");
        x.knows(0, 1);
        due("once", Bounds.told(x, "k01;"), 1);
        due("not known", x.learnerOf(0, 1), 0);
        due("twice", Bounds.told(x, "k01;k01;"), 2);
        due("not known still", x.learnerOf(0, 1), 0);
        due("thrice", Bounds.told(x, "k01;k01;k01;"), 3);
        due("known", x.learnerOf(0, 1), 2);
    }

    static void termStatementH() {
        WhichWayRound x = new WhichWayRound();
        Bounds.told(x, "h23;");
        due("greatest", x.count(3), 23);
        Bounds.told(x, "h00;");
        due("least", x.count(3), 0);
        Bounds.told(x, "h01;h10;");
        due("the last of two", x.count(3), 10);
    }

    static void termStatementT() {
        WhichWayRound x = with("001 001", "1 1 1 1 1 2", "0 0 0 0 0");
        due("two", Bounds.told(x, "t00;t45;"), 2);
        due("the first on the first", x.learnerOf(0, 1), 1);
        due("the last on the last", x.learnerOf(4, 1), 2);
    }

    static void termStatementM() {
        WhichWayRound x = new WhichWayRound();
        Bounds.told(x, "m99;");
        due("greatest", x.count(4), 99);
        Bounds.told(x, "m00;");
        due("least", x.count(4), 0);
        Bounds.told(x, "m10;m01;");
        due("the last of two", x.count(4), 1);
    }

    static void termStatementD() {
        WhichWayRound x = with("001 001 001", "7", "0");
        due("four", Bounds.told(x, "t00;h20;d;d;"), 4);
        due("days", x.count(5), 2);
        due("hour", x.count(3), 8);
        due("two forgotten", x.learnerOf(0, 1), 1);
    }

    static void termTownWithoutFaultAllComes() {
        WhichWayRound x = Bounds.changed();
        due("statements", Bounds.told(x, "s219;w064;l2;k30;t34;m01;d;h22;"), 8);
        due("a street", x.streetOf(6, 0) * 100 + x.streetOf(6, 1) * 10 + x.streetOf(6, 2), 219);
        due("a way", x.wayOf(4, 8, 0), 64);
        due("a learner", x.learnerOf(3, 0), 2);
        due("known, the greatest forgotten", x.learnerOf(3, 1), 1);
        due("limit", x.count(4), 1);
        due("day", x.count(5), 1);
        due("hour", x.count(3), 22);
    }

    static void termTownIsBehindWhatThereIs() {
        WhichWayRound x = with("001", "1", "4");
        Bounds.told(x, "s111;w002;l5;");
        due("street 1", x.streetOf(1, 0), 1);
        due("way 1", x.wayOf(1, 8, 0), 2);
        due("learner 1", x.learnerOf(1, 0), 5);
        due("way 0 as it was", x.wayOf(0, 8, 0), 1);
        due("learner 0 as it was", x.learnerOf(0, 0), 4);
    }

    // ---- FAULT of kind 1

    /** Every letter of 0 .. 255 that is not one of these, at a place of a statement, behind what may stand ahead. */
    private static void wrongLetters(String statement, int place, String these) {
        for (String ahead : AHEAD) {
            for (int letter = 0; letter <= 255; letter++) {
                if (these.indexOf(letter) < 0) {
                    WhichWayRound x = new WhichWayRound();
                    Bounds.feed(x, ahead + statement.substring(0, place));
                    x.feed(letter);
                    Bounds.feed(x, statement.substring(place + 1));
                    due(ahead + statement + " with " + letter + " at " + place, x.town(), -1000 - ahead.length() - place);
                }
            }
        }
    }

    static void termFault1IsAFirstLetterOfNoStatement() {
        for (String statement : STATEMENTS) {
            wrongLetters(statement, 0, FIRST_LETTERS);
        }
    }

    static void termFault1IsALetterThatIsNoDigit() {
        for (String statement : STATEMENTS) {
            for (int place = 1; place < statement.length() - 1; place++) {
                wrongLetters(statement, place, "0123456789");
            }
        }
    }

    static void termFault1IsALetterWhereASemicolonIsDue() {
        for (String statement : STATEMENTS) {
            wrongLetters(statement, statement.length() - 1, ";");
        }
    }

    static void termFault1IsTheEndIfSomethingLacks() {
        for (String statement : STATEMENTS) {
            for (String ahead : AHEAD) {
                for (int place = 1; place < statement.length(); place++) {
                    String text = ahead + statement.substring(0, place);
                    told(text, -1000 - text.length());
                }
            }
        }
    }

    static void termFault1OfNothingIsPlace0() {
        told("", -1000);
    }

    static void termFault1IsTheFirstOfSeveral() {
        told("x;y;", -1000);
        told("d;x;y;", -1002);
        told("h0x;d", -1002);
        told("sx43", -1001);
    }

    static void termFault1IsAtPlace95() {
        told("d;".repeat(47) + "dx", -1095);
        told("h00;".repeat(23) + "h00d", -1095);
        told("d;".repeat(47) + "d", -1095);
    }

    static void termFault1IsTheEndOf96Letters() {
        told("d;".repeat(46) + "w000", -1096);
        told("l0;".repeat(31) + "h00", -1096);
    }

    static void termFault1ComesAheadOfKind2() {
        told("h24;x", -1004);
        told("s600;w000;h24", -1013);
        told("w000;d;k99;d:", -1012);
    }

    static void termFault1ChangesNothing() {
        faulty(Bounds::changed, "s011;w001;l1;k00;h01;t00;m01;d;x", -1031);
        faulty(Bounds::changed, "d;d", -1003);
        faulty(Bounds::empty, "l1;l2;l", -1007);
    }

    // ---- FAULT of kind 2

    static void termFault2IsAKindAbove5() {
        right(Bounds::empty, "s501;", 1);
        faulty(Bounds::empty, "s601;", -2000);
        faulty(Bounds::changed, "d;s901;", -2002);
    }

    static void termFault2IsMinutes0() {
        right(Bounds::empty, "s001;", 1);
        right(Bounds::empty, "s009;", 1);
        faulty(Bounds::empty, "s000;", -2000);
        faulty(Bounds::changed, "h01;s090;", -2004);
    }

    static void termFault2IsNoFigure() {
        right(Bounds::empty, "s001;s091;", 2);
    }

    private static WhichWayRound sevenStreets() {
        return with("001 001 001 001 001 001 001", "", "");
    }

    private static WhichWayRound eightStreets() {
        return with("001 001 001 001 001 001 001 001", "", "");
    }

    static void termFault2IsNoRoomForAStreet() {
        right(BoundsOfTowns::sevenStreets, "s001;", 1);
        faulty(BoundsOfTowns::sevenStreets, "s001;s001;", -2005);
        faulty(BoundsOfTowns::eightStreets, "s001;", -2000);
        right(Bounds::empty, "s001;".repeat(8), 8);
        faulty(Bounds::empty, "s001;".repeat(9), -2040);
    }

    static void termFault2IsAWayOfNoStreets() {
        right(BoundsOfTowns::eightStreets, "w001;", 1);
        faulty(BoundsOfTowns::eightStreets, "w000;", -2000);
        faulty(Bounds::empty, "w000;", -2000);
    }

    static void termFault2IsAWayOfNoSuchStreet() {
        right(() -> with("001 001", "", ""), "w003;", 1);
        faulty(() -> with("001 001", "", ""), "w004;", -2000);
        faulty(() -> with("001 001", "", ""), "w005;", -2000);
        right(BoundsOfTowns::sevenStreets, "w127;", 1);
        faulty(BoundsOfTowns::sevenStreets, "w128;", -2000);
        right(BoundsOfTowns::eightStreets, "w255;", 1);
        faulty(BoundsOfTowns::eightStreets, "w256;", -2000);
        faulty(BoundsOfTowns::eightStreets, "w257;", -2000);
        faulty(BoundsOfTowns::eightStreets, "w999;", -2000);
        faulty(Bounds::empty, "w001;", -2000);
    }

    static void termFault2IsNoRoomForAWay() {
        right(() -> with("001", "1 1 1 1 1", ""), "w001;", 1);
        faulty(() -> with("001", "1 1 1 1 1", ""), "w001;w001;", -2005);
        faulty(() -> with("001", "1 1 1 1 1 1", ""), "w001;", -2000);
    }

    static void termFault2IsNoRoomForALearner() {
        right(() -> with("", "", "0 0 0 0"), "l0;", 1);
        faulty(() -> with("", "", "0 0 0 0"), "l0;l0;", -2003);
        faulty(() -> with("", "", "0 0 0 0 0"), "l0;", -2000);
    }

    static void termFault2IsNoSkill() {
        right(Bounds::empty, "l0;l9;", 2);
    }

    static void termFault2IsAKnownOfNoSuchLearner() {
        right(Bounds::aTown, "k20;", 1);
        faulty(Bounds::aTown, "k30;", -2000);
        faulty(() -> with("001", "", ""), "k00;", -2000);
        right(() -> with("001", "", "0 0 0 0 0"), "k40;", 1);
        faulty(() -> with("001", "", "0 0 0 0 0"), "k50;", -2000);
    }

    static void termFault2IsAKnownOfNoSuchStreet() {
        right(Bounds::aTown, "k05;", 1);
        faulty(Bounds::aTown, "k06;", -2000);
        right(() -> with("001 001 001 001 001 001 001 001", "", "0"), "k07;", 1);
        faulty(() -> with("001 001 001 001 001 001 001 001", "", "0"), "k08;", -2000);
        faulty(() -> with("", "", "0"), "k00;", -2000);
    }

    static void termFault2IsAnHourAbove23() {
        right(Bounds::empty, "h00;h23;", 2);
        faulty(Bounds::empty, "h24;", -2000);
        faulty(Bounds::changed, "h30;", -2000);
        faulty(Bounds::changed, "h99;", -2000);
    }

    static void termFault2IsATestOfNoSuchLearner() {
        right(Bounds::aTown, "t20;", 1);
        faulty(Bounds::aTown, "t30;", -2000);
        faulty(() -> with("001", "1", ""), "t00;", -2000);
    }

    static void termFault2IsATestOnNoSuchWay() {
        right(Bounds::aTown, "t03;", 1);
        faulty(Bounds::aTown, "t04;", -2000);
        right(Bounds::sixWays, "t05;", 1);
        faulty(Bounds::sixWays, "t06;", -2000);
        faulty(() -> with("001", "", "0"), "t00;", -2000);
    }

    static void termFault2IsNoLimit() {
        right(Bounds::empty, "m00;m99;", 2);
    }

    static void termFault2IsByAllAheadOfItInTheText() {
        right(Bounds::empty, "s011;w001;l1;k00;t00;", 5);
        right(Bounds::empty, "l1;s011;k00;w001;t00;", 5);
    }

    static void termFault2IsByNothingBehindIt() {
        faulty(Bounds::empty, "w001;s011;", -2000);
        faulty(Bounds::empty, "s011;w003;s011;", -2005);
        faulty(Bounds::empty, "s011;k00;l1;", -2005);
        faulty(Bounds::empty, "l1;k00;s011;", -2003);
        faulty(Bounds::empty, "s011;w001;t00;l1;", -2010);
        faulty(Bounds::empty, "s011;l1;t00;w001;", -2008);
    }

    static void termFault2IsTheFirstOfSeveral() {
        faulty(Bounds::changed, "h24;s600;", -2000);
        faulty(Bounds::changed, "d;w000;h24;", -2002);
        faulty(Bounds::changed, "d;h23;k99;w000;", -2006);
    }

    static void termFault2IsTheFirstLetterOfItsStatement() {
        faulty(Bounds::changed, "d;h00;d;s060;", -2008);
        faulty(Bounds::changed, "d;k09;", -2002);
    }

    static void termFault2IsAtTheGreatestPlace() {
        told("h00;".repeat(23) + "h24;", -2092);
        told("l0;d;".repeat(5) + "d;".repeat(34) + "l0;", -2093);
    }

    static void termFault2ChangesNothing() {
        faulty(Bounds::changed, "s011;w001;l1;k00;h01;t00;m01;d;h24;", -2031);
        faulty(Bounds::changed, "d;w000;", -2002);
        faulty(Bounds::empty, "s001;l1;w002;", -2008);
    }
}
