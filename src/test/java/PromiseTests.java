/** Promise by promise: answers worked out by hand, the edges, and wrong inputs. */
public final class PromiseTests {
    private static final int NOTHING = -1_000_000;
    private static final int LOW = Integer.MIN_VALUE;
    private static final int HIGH = Integer.MAX_VALUE;

    /*
     * Children: 0 girl 14, 1 half girl 9, 2 boy 6, 3 dead girl 3 | 4 boy 10, 5 boy 10 who
     * is away, 6 girl 16 | 7 girl 2, 8 half boy 20 | none. Scholars: 0, 1, 2, 4.
     */
    private static final String TOWN = "town school 6 to 14;"
        + "house; girl 14; girl 9 half; boy 6; girl 3 dead;"
        + "house; boy 10; boy 10 away; girl 16;"
        + "house; girl 2; boy 20 half;"
        + "house;"
        + "ask sisters; ask all older living; ask brothers younger whole;"
        + "slip 4 0 3; slip 0 1 1; slip 0 1 2;";

    /* Girls 16, 18 | boys 17, 20, girl 15 | boy 16, girl 30, dead boy 18. */
    private static final String GROWN = "town school 5 to 9;"
        + "house; girl 16; girl 18 away;"
        + "house; boy 17 half; boy 20; girl 15;"
        + "house; boy 16; girl 30; boy 18 dead;";

    private static final String BARE = "town school 5 to 9;";

    private static final Check check = new Check();

    public static void main(String[] args) {
        tape();
        lines();
        faults();
        childrenAndHouses();
        truthsAndAnswers();
        tales();
        means();
        schoolYears();
        slips();
        asks();
        tellingHousesApart();
        told();
        toldRefusals();
        heard();
        hiddenAndBread();
        marriages();
        heirs();
        beds();
        census();
        twinsAndAges();
        schools();
        fitting();
        shares();
        onlyEldestSpread();
        clashes();
        lessAndPanel();
        changing();
        drawing();
        counting();
        images();
        rows();
        pasting();
        noTown();
        bareTown();
        check.finish("PromiseTests");
    }

    private static void due(String call, long got, long want) {
        check.due(call, got, want);
    }

    private static int bytes(String four) {
        int number = 0;
        for (int i = 0; i < 4; i++) {
            number = number << 8 | four.charAt(i);
        }
        return number;
    }

    private static void tape() {
        check.about("promises 1, 2, 3");
        SisterCount x = new SisterCount();
        for (int what = 0; what < 10; what++) {
            due("count(" + what + ") of a new object", x.count(what), 0);
        }
        due("feed", x.feed(bytes("town"), bytes(" sch"), bytes("ool "), bytes("5 to"), bytes(" 9; ")), 20);
        due("count(7)", x.count(7), 20);
        due("town", x.town(), 1);
        due("count(1)", x.count(1), 9);
        for (int i = 1; i <= 60; i++) {
            due("feed " + i, x.feed(0x20202020, 0x20202020, 0x20202020, 0x20202020, 0x20202020), 20 * i);
        }
        due("feed too many", x.feed(0, 0, 0, 0, 0), -1);
        due("count(7)", x.count(7), 1200);
        due("end(1201)", x.end(1201), -1);
        due("end(-1)", x.end(-1), -1);
        due("end low", x.end(LOW), -1);
        due("count(7)", x.count(7), 1200);
        due("end(1200)", x.end(1200), 1200);
        due("end(1181)", x.end(1181), 1181);
        due("feed too many", x.feed(0, 0, 0, 0, 0), -1);
        due("end(1180)", x.end(1180), 1180);
        due("feed", x.feed(0, 0, 0, 0, 0), 1200);
        due("end(1180)", x.end(1180), 1180);
        due("blanks alone", x.town(), 0);
        due("scholars", x.scholars(), -2);
        due("count(7)", x.count(7), 0);
        due("end(1)", x.end(1), -1);
        due("end(0)", x.end(0), 0);
        Check.feedText(x, "town school 5 to");
        Check.feedBehind(x, 16, " 9;");
        due("a text in two parts", x.town(), 1);
    }

    private static int lines(SisterCount x, String text) {
        Check.feedText(x, text);
        return x.town();
    }

    private static void lines() {
        check.about("promise 4");
        SisterCount x = new SisterCount();
        due("nothing", x.town(), 0);
        due("town", lines(x, TOWN), 20);
        due("tape is empty", x.count(7), 0);
        due("years", x.years(3), 3);
        due("years gone", x.count(8), 3);
        due("a fault", lines(x, "town school 5 to 9"), -4);
        due("years stay", x.count(8), 3);
        due("lines stay", x.count(6), 20);
        due("ages stay", x.child(0, 2), 17);
        due("the tape stays", x.count(7), 18);
        due("with its fault", x.town(), -4);
        due("the tape stays", x.count(7), 18);
        Check.feedBehind(x, 18, ";house;");
        due("mended behind it", x.town(), 2);
        due("tape is empty", x.count(7), 0);
        due("town again", lines(x, TOWN), 20);
        due("no years", x.count(8), 0);
        due("ages anew", x.child(0, 2), 14);
        due("slips anew", lines(x, BARE + "house;girl 5;ask all;"), 4);
        due("answer without the former slips", x.answer(0, 0), 0);
        due("no blanks", lines(x, "town school5to9;house;girl5half;boy0007dead away;ask all;slip0 0 20;"), 6);
        due("age", x.child(1, 2), 7);
        due("answer", x.answer(0, 0), 21);
        due("lines of text", lines(x, "\n town\nschool 0 to 30 ;\n\nhouse\n;\n"), 2);
        due("to itself", lines(x, "town school 30 to 30;"), 1);
        due("all words", lines(x, BARE + "house;girl 30 half dead away;boy 0 away;boy 3 dead;"
            + "ask all older living whole;ask sisters younger whole;ask brothers living;"), 8);
        due("eight houses", lines(x, BARE + "house;".repeat(8)), 9);
        due("six children", lines(x, BARE + "house;" + "boy 1;".repeat(6)), 8);
        due("twenty children", lines(x, BARE + ("house;" + "boy 1;".repeat(5)).repeat(4)), 25);
        due("six questions", lines(x, BARE + "ask all;".repeat(6)), 7);
        due("blanks", lines(x, " \n "), 0);
        due("then there is none", x.count(6), 0);
        due("nor its houses", x.house(0, 0), -2);
    }

    private static void fault(String text, int kind, int place) {
        SisterCount x = new SisterCount();
        Check.feedText(x, text);
        due("town of '" + text + "'", x.town(), kind == 0 ? x.count(6) : -4);
        due("fault(0) of '" + text + "'", x.fault(0), kind);
        due("fault(1) of '" + text + "'", x.fault(1), place);
    }

    private static void faults() {
        check.about("promise 5");
        SisterCount x = new SisterCount();
        due("fault(0) ahead of any", x.fault(0), 0);
        due("fault(1) ahead of any", x.fault(1), -1);
        due("fault(2) ahead of any", x.fault(2), -1);
        fault(BARE, 0, -1);
        fault("town school 5;", 1, 13);
        fault("town school 5 to 9", 1, 18);
        fault("town school 5 to 9  ", 1, 20);
        fault("house;", 1, 0);
        fault(" 5", 1, 1);
        fault(";", 1, 0);
        fault("towns school 5 to 9;", 1, 0);
        fault("town", 1, 4);
        fault("town skool 5 to 9;", 1, 5);
        fault("town school five to 9;", 1, 12);
        fault("town school 5 two 9;", 1, 14);
        fault("town school 31 to 30;", 2, 12);
        fault("town school 5 to 4;", 2, 17);
        fault("town school 5 to 31;", 2, 17);
        fault("town school 5 to 99999999999999999999;", 2, 17);
        fault("town school 4294967301 to 9;", 2, 12);
        fault(BARE + ";", 1, 19);
        fault(BARE + "town school 5 to 9;", 1, 19);
        fault(BARE + "half;", 1, 19);
        fault(BARE + "hous;", 1, 19);
        fault(BARE + "House;", 1, 19);
        fault(BARE + "louse;", 1, 19);
        fault(BARE + "housez;", 1, 19);
        fault(BARE + "house{", 1, 24);
        fault(BARE + "house`", 1, 24);
        fault("town school 5/to 9;", 1, 13);
        fault("town school 5:to 9;", 1, 13);
        fault(BARE + "house,", 1, 24);
        fault(BARE + "house\t;", 1, 24);
        fault(BARE + "house house;", 1, 25);
        fault(BARE + "house " + (char) 233 + ";", 1, 25);
        fault(BARE + "house" + (char) 0, 1, 24);
        fault(BARE + "girl 5;", 1, 19);
        fault(BARE + "boy 31;", 1, 19);
        fault(BARE + "house;girl;", 1, 29);
        fault(BARE + "house;girl -5;", 1, 30);
        fault(BARE + "house;boy 31;", 2, 29);
        fault(BARE + "house;boy 3 dead half;", 1, 36);
        fault(BARE + "house;boy 3 dead dead;", 1, 36);
        fault(BARE + "house;boy 3 3;", 1, 31);
        fault(BARE + "house;boy 3", 1, 30);
        fault(BARE + "ask;", 1, 22);
        fault(BARE + "ask cats;", 1, 23);
        fault(BARE + "ask all sisters;", 1, 27);
        fault(BARE + "ask all older younger;", 1, 33);
        fault(BARE + "ask all younger older;", 1, 35);
        fault(BARE + "ask all whole living;", 1, 33);
        fault(BARE + "slip 0 0 1;", 2, 24);
        fault(BARE + "house;boy 3;slip 0 0 1;", 2, 38);
        fault(BARE + "house;boy 3;ask all;slip 1 0 1;", 2, 44);
        fault(BARE + "house;boy 3;ask all;slip 0 1 1;", 2, 46);
        fault(BARE + "house;boy 3;ask all;slip 0 0 0;", 2, 48);
        fault(BARE + "house;boy 3;ask all;slip 0 0 21;", 2, 48);
        fault(BARE + "house;boy 3;ask all;slip 0 0 20;", 0, -1);
        fault(BARE + "house;boy 3;ask all;slip 0 0;", 1, 47);
        fault(BARE + "house;".repeat(9), 3, 67);
        fault(BARE + "house;" + "boy 1;".repeat(6) + "girl 1;", 3, 61);
        fault(BARE + ("house;" + "boy 1;".repeat(5)).repeat(4) + "boy x;", 3, 163);
        fault(BARE + ("house;" + "boy 1;".repeat(5)).repeat(4) + "house;girl 1;", 3, 169);
        fault(BARE + "ask all;".repeat(7), 3, 67);
        fault(BARE + "house;boy 99;house?", 2, 29);
        Check.feedText(x, BARE + "?");
        due("a fault", x.town(), -4);
        due("fault(2)", x.fault(2), -1);
        due("fault(-1)", x.fault(-1), -1);
        due("cut at the fault", x.end(19), 19);
        due("town without the fault", x.town(), 1);
        due("fault(0) is of the latest", x.fault(0), 0);
        due("fault(1) is of the latest", x.fault(1), -1);
    }

    private static void childrenAndHouses() {
        SisterCount x = Check.of(TOWN);
        check.about("promise 6");
        int[][] children = {
            {0, 0, 14, 0, 0, 0}, {0, 0, 9, 1, 0, 0}, {0, 1, 6, 0, 0, 0}, {0, 0, 3, 0, 1, 0},
            {1, 1, 10, 0, 0, 0}, {1, 1, 10, 0, 0, 1}, {1, 0, 16, 0, 0, 0},
            {2, 0, 2, 0, 0, 0}, {2, 1, 20, 1, 0, 0}};
        for (int child = 0; child < 9; child++) {
            for (int what = 0; what < 6; what++) {
                due("child(" + child + ", " + what + ")", x.child(child, what), children[child][what]);
            }
        }
        due("child(0, 6)", x.child(0, 6), -2);
        due("child(0, -1)", x.child(0, -1), -2);
        due("child(9, 0)", x.child(9, 0), -2);
        due("child(-1, 0)", x.child(-1, 0), -2);
        due("child high", x.child(HIGH, LOW), -2);
        check.about("promise 7");
        int[][] houses = {{4, 3, 1, 3, 0}, {3, 1, 2, 1, 4}, {2, 1, 1, 0, 7}, {0, 0, 0, 0, -1}};
        for (int house = 0; house < 4; house++) {
            for (int what = 0; what < 5; what++) {
                due("house(" + house + ", " + what + ")", x.house(house, what), houses[house][what]);
            }
        }
        due("house(0, 5)", x.house(0, 5), -2);
        due("house(0, -1)", x.house(0, -1), -2);
        due("house(4, 0)", x.house(4, 0), -2);
        due("house(-1, 0)", x.house(-1, 0), -2);
        check.about("promise 8");
        due("scholars", x.scholars(), 1 + 2 + 4 + 16);
        x.years(1);
        due("scholars a year on", x.scholars(), 2 + 4 + 16);
    }

    private static void truthsAndAnswers() {
        SisterCount x = Check.of(TOWN);
        check.about("promise 9");
        int[][] truths = {{3, 2, 5, 3, 2, 2, 0, 0, 1}, {0, 1, 3, 5, 2, 2, 0, 1, 0}, {2, 0, 0, 0, 0, 0, 4, 0, 0}};
        for (int ask = 0; ask < 3; ask++) {
            for (int child = 0; child < 9; child++) {
                due("truth(" + child + ", " + ask + ")", x.truth(child, ask), truths[ask][child]);
            }
        }
        due("truth(9, 0)", x.truth(9, 0), -2);
        due("truth(0, 3)", x.truth(0, 3), -2);
        due("truth(-1, 0)", x.truth(-1, 0), -2);
        due("truth(0, -1)", x.truth(0, -1), -2);
        check.about("promise 10");
        int[][] answers = {{3, 2, 5, -5, 5, -5, -5, -5, -5}, {2, 1, 3, -5, 2, -5, -5, -5, -5},
            {2, 0, 0, -5, 0, -5, -5, -5, -5}};
        for (int ask = 0; ask < 3; ask++) {
            for (int child = 0; child < 9; child++) {
                due("answer(" + child + ", " + ask + ")", x.answer(child, ask), answers[ask][child]);
            }
        }
        due("answer(9, 0)", x.answer(9, 0), -2);
        due("answer(5, 3)", x.answer(5, 3), -2);
        check.about("promise 9");
        SisterCount y = Check.of("town school 0 to 30;house;girl 5 half;girl 5 half;boy 5;boy 4 dead;"
            + "ask all;ask all older;ask all younger;ask all whole;ask brothers living;ask sisters whole");
        due("no town", y.count(6), 0);
        y = Check.of("town school 0 to 30;house;girl 5 half;girl 5 half;boy 5;boy 4 dead;"
            + "ask all;ask all older;ask all younger;ask all whole;ask brothers living;ask sisters whole;");
        int[][] due = {{4, 0, 1, 2, 1, 2}, {4, 0, 1, 2, 1, 2}, {4, 0, 2, 2, 0, 0}, {4, 4, 0, 2, 2, 0}};
        for (int child = 0; child < 4; child++) {
            for (int ask = 0; ask < 6; ask++) {
                due("half ones: truth(" + child + ", " + ask + ")", y.truth(child, ask), due[child][ask]);
            }
        }
        y.years(2);
        due("a dead one stays behind", y.truth(2, 2), 2);
        due("and counts who grew", y.truth(3, 1), 4);
    }

    private static void tales() {
        SisterCount x = Check.of(TOWN);
        check.about("promise 11");
        due("tale(0)", x.tale(0), 8);
        due("tale(1)", x.tale(1), 4);
        due("tale(2)", x.tale(2), 12);
        due("tale(3)", x.tale(3), -2);
        due("tale(-1)", x.tale(-1), -2);
        check.about("promise 12");
        due("are(0)", x.are(0), 5);
        due("are(1)", x.are(1), 4);
        due("are(2)", x.are(2), 9);
        due("are(3)", x.are(3), -2);
        due("are(-1)", x.are(-1), -2);
    }

    private static void fraction(String call, long above, long below, long a, long b) {
        due(call + " above", above, a);
        due(call + " below", below, b);
    }

    private static void means() {
        SisterCount x = Check.of(TOWN);
        check.about("promise 13");
        fraction("seems(0)", x.seems(0, 0), x.seems(0, 1), 15, 8);
        fraction("seems(1)", x.seems(1, 0), x.seems(1, 1), 1, 1);
        fraction("seems(2)", x.seems(2, 0), x.seems(2, 1), 1, 4);
        due("seems(3, 0)", x.seems(3, 0), -2);
        due("seems(0, 2)", x.seems(0, 2), -2);
        due("seems(0, -1)", x.seems(0, -1), -2);
        check.about("promise 14");
        fraction("weighed(0)", x.weighed(0, 0), x.weighed(0, 1), 25, 12);
        fraction("weighed(1)", x.weighed(1, 0), x.weighed(1, 1), 1, 1);
        fraction("weighed(2)", x.weighed(2, 0), x.weighed(2, 1), 1, 6);
        due("weighed(-1, 0)", x.weighed(-1, 0), -2);
        due("weighed(0, 2)", x.weighed(0, 2), -2);
        check.about("promise 15");
        fraction("mean(0)", x.mean(0, 0), x.mean(0, 1), 5, 4);
        fraction("mean(1)", x.mean(1, 0), x.mean(1, 1), 1, 1);
        fraction("mean(2)", x.mean(2, 0), x.mean(2, 1), 9, 4);
        due("mean(3, 0)", x.mean(3, 0), -2);
        due("mean(0, 2)", x.mean(0, 2), -2);
        check.about("promises 13, 14");
        x.years(30);
        due("seems without scholars", x.seems(0, 0), -5);
        due("seems without scholars, no such what", x.seems(0, 2), -2);
        due("weighed without scholars", x.weighed(0, 1), -5);
        due("weighed without scholars, no such question", x.weighed(3, 1), -2);
        x = Check.of(BARE + "house;girl 6;ask all;");
        fraction("seems of 0", x.seems(0, 0), x.seems(0, 1), 0, 1);
        fraction("weighed of 0", x.weighed(0, 0), x.weighed(0, 1), 0, 1);
        fraction("mean of 0", x.mean(1, 0), x.mean(1, 1), 0, 1);
        check.about("promise 52");
        x = Check.of(TOWN);
        fraction("age(0)", x.age(0, 0), x.age(0, 1), 8, 1);
        fraction("age(1)", x.age(1, 0), x.age(1, 1), 12, 1);
        due("age(3, 0)", x.age(3, 0), -5);
        due("age(3, 2)", x.age(3, 2), -2);
        due("age(4, 0)", x.age(4, 0), -2);
        due("age(0, -1)", x.age(0, -1), -2);
        x.years(1);
        fraction("age(0) a year on", x.age(0, 0), x.age(0, 1), 35, 4);
    }

    private static void schoolYears() {
        SisterCount x = Check.of(TOWN);
        check.about("promise 16");
        due("unseen", x.unseen(), 4);
        check.about("promise 17");
        due("comes(0)", x.comes(0), 0);
        due("comes(1)", x.comes(1), 0);
        due("comes(2)", x.comes(2), 4);
        due("comes(3)", x.comes(3), -1);
        due("comes(4)", x.comes(4), -2);
        due("comes(-1)", x.comes(-1), -2);
        SisterCount y = Check.of("town school 30 to 30;house;girl 0;house;girl 30 dead;boy 30 away;house;girl 1;");
        due("comes at 30", y.comes(0), 30);
        due("never", y.comes(1), -1);
        due("comes at 29", y.comes(2), 29);
        due("unseen", y.unseen(), 7);
        y.years(30);
        due("never more", y.comes(2), -1);
        check.about("promise 18");
        due("best(0)", x.best(0), 3);
        due("best(1)", x.best(1), 4);
        due("best(2)", x.best(2), -2);
        due("best(-1)", x.best(-1), -2);
        SisterCount w = Check.of("town school 30 to 30;house;girl 0;house;girl 0;house;girl 30;");
        due("best at 30", w.best(0), 2);
        due("best at 30", w.best(1), 30);
        due("best(0) later", y.best(0), 1);
        due("best(1) later", y.best(1), 0);
        check.about("promise 19");
        due("years(31)", x.years(31), -2);
        due("years(-1)", x.years(-1), -2);
        due("years(0)", x.years(0), 4);
        due("years(4)", x.years(4), 4);
        due("scholars", x.scholars(), 2 + 4 + 16 + 128);
        due("dead ones stay as they were", x.child(3, 2), 3);
        due("others grow, away or not", x.child(5, 2), 14);
        due("years gone", x.count(8), 4);
        due("years(30)", x.years(30), 0);
        due("years(30) again", x.years(30), 0);
        due("someone would be 100", x.years(16), -3);
        due("nothing happens", x.child(8, 2), 84);
        due("years gone", x.count(8), 64);
        due("someone is 99", x.years(15), 0);
        due("age 99", x.child(8, 2), 99);
        due("years(1)", x.years(1), -3);
        due("years(0)", x.years(0), 0);
        SisterCount z = Check.of("town school 0 to 0;house;girl 30 dead;boy 0;");
        for (int i = 0; i < 3; i++) {
            z.years(30);
        }
        due("dead ones bound nothing", z.years(9), 0);
        due("no house", z.years(10), -3);
    }

    private static void slips() {
        SisterCount x = Check.of(TOWN);
        check.about("promise 20");
        due("slips(0)", x.slips(0), 2);
        due("slips(1)", x.slips(1), 0);
        due("slips(2)", x.slips(2), -2);
        due("slips(-1)", x.slips(-1), -2);
        x.years(1);
        due("slips(0) of scholars alone", x.slips(0), 1);
        due("slips(1) of scholars alone", x.slips(1), 4);
        x.years(20);
        due("slips(0) of nobody", x.slips(0), 0);
        due("slips(1) of nobody", x.slips(1), -1);
        x = Check.of(BARE + "house;girl 5;girl 5;girl 5;ask all;ask all;slip 0 0 9;slip 2 0 1;slip 2 1 1;slip 1 1 1;");
        due("slips(0)", x.slips(0), 4);
        due("slips(1)", x.slips(1), 2);
    }

    private static void asks() {
        SisterCount x = Check.of(TOWN);
        check.about("promise 21");
        due("kinds(0)", x.kinds(0), 3);
        due("kinds(1)", x.kinds(1), 3);
        due("kinds(2)", x.kinds(2), 2);
        due("kinds(3)", x.kinds(3), -2);
        due("kinds(-1)", x.kinds(-1), -2);
        check.about("promise 22");
        due("crowd(0)", x.crowd(0), 2);
        due("crowd(1)", x.crowd(1), 2);
        due("crowd(2)", x.crowd(2), 3);
        due("crowd(3)", x.crowd(3), -2);
        due("crowd(-1)", x.crowd(-1), -2);
        check.about("promise 23");
        due("next", x.next(), 0);
        SisterCount y = Check.of(BARE + "house;girl 5;girl 6;girl 7;ask all;ask all older;ask all younger;");
        due("next", y.next(), 1);
        due("crowd(0)", y.crowd(0), 3);
        due("crowd(1)", y.crowd(1), 1);
        due("no questions", Check.of(BARE).next(), -1);
        String twenty = "town school 0 to 9;" + ("house;" + "girl 3;".repeat(5)).repeat(4) + "ask all;ask sisters;";
        due("all in one crowd", Check.of(twenty).next(), 0);
        y.years(9);
        due("kinds without scholars", y.kinds(0), 0);
        due("crowd without scholars", y.crowd(0), 0);
        due("next without scholars", y.next(), 0);
    }

    private static void tellingHousesApart() {
        SisterCount x = Check.of(TOWN);
        check.about("promise 24");
        int[] told = {0, 0, 0, 3, 0, 0, 3, 3};
        for (int set = 0; set < 8; set++) {
            due("tells(" + set + ")", x.tells(set), told[set]);
        }
        due("tells(8)", x.tells(8), -2);
        due("tells(-1)", x.tells(-1), -2);
        due("tells low", x.tells(LOW), -2);
        check.about("promise 25");
        due("fewest(0)", x.fewest(0), 2);
        due("fewest(1)", x.fewest(1), 3);
        due("fewest(2)", x.fewest(2), -2);
        due("fewest(-1)", x.fewest(-1), -2);
        check.about("promise 26");
        due("like(0)", x.like(0), 1);
        due("like(4)", x.like(4), 2);
        due("like(5)", x.like(5), -5);
        due("like(9)", x.like(9), -2);
        due("like(-1)", x.like(-1), -2);
        check.about("promise 27");
        int[] most = {0, 0, 2, 2, -2, -2, -2, -2};
        for (int n = 0; n < 8; n++) {
            due("most(" + n + ")", x.most(n), most[n]);
        }
        due("most(-1)", x.most(-1), -2);
        check.about("promises 24 to 27");
        SisterCount y = Check.of(BARE + "house;girl 5;boy 7;house;girl 5;boy 9;house;boy 9;house;boy 3;"
            + "ask all;ask sisters;ask brothers older;");
        due("like(0)", y.like(0), 3);
        due("like(4)", y.like(4), 4);
        due("tells(0)", y.tells(0), 0);
        due("tells(1)", y.tells(1), 4);
        due("tells(2)", y.tells(2), 0);
        due("tells(4)", y.tells(4), 0);
        due("tells(7)", y.tells(7), 4);
        due("fewest(0)", y.fewest(0), 1);
        due("fewest(1)", y.fewest(1), 1);
        due("most(0)", y.most(0), 0);
        due("most(1)", y.most(1), 1);
        SisterCount z = Check.of(BARE + "house;girl 5;boy 7;house;girl 1;");
        due("the one house that is seen is told by nothing", z.tells(0), 1);
        due("fewest(0)", z.fewest(0), 0);
        due("fewest(1)", z.fewest(1), 0);
        due("most(0)", z.most(0), 1);
        due("most(1)", z.most(1), -2);
        due("like(0)", z.like(0), 1);
    }

    private static void told() {
        SisterCount x = Check.of(BARE);
        // Two girls with one sister; a boy with two sisters: of houses 2 + 0, 2 + 0, 2 + 1.
        Check.putRow(x, 0, 0, 0, 1, 0, 0, 1, 0, 1, 2, 0);
        // Four girls and a boy of 2 + 1: two of each house at the most, one boy.
        Check.putRow(x, 1, 1, 0, 1, 1, 0, 1, 1, 0, 1, 1, 0, 1, 1, 1, 2, 0);
        // Ten girls of ten, all of whom can be of one house.
        long[] ten = new long[30];
        for (int i = 0; i < 10; i++) {
            ten[3 * i + 1] = 9;
        }
        Check.putRow(x, 2, 2, ten);
        x.row(3, 3, 0);
        check.about("promise 28");
        due("least(0)", x.least(0), 2);
        due("least(1)", x.least(1), 2);
        due("least(2)", x.least(2), 1);
        due("least(3)", x.least(3), 0);
        check.about("promise 29");
        due("greatest(0)", x.greatest(0), 3);
        due("greatest(1)", x.greatest(1), 5);
        due("greatest(2)", x.greatest(2), 10);
        due("greatest(3)", x.greatest(3), 0);
        check.about("promise 30");
        due("joinings(0)", x.joinings(0), 2);
        // Girls: ten ways (1 of four houses, 6 of three, 3 of two); the boy: one of these or alone.
        due("joinings(1)", x.joinings(1), 1 * 5 + 6 * 4 + 3 * 3);
        due("joinings(2)", x.joinings(2), 115975);
        due("joinings(3)", x.joinings(3), 1);
        check.about("promise 31");
        int[] by = {0, 0, 3 * 2, 6 * 3 + 3, 1 * 4 + 6, 1, 0};
        for (int n = 0; n < 7; n++) {
            due("by(1, " + n + ")", x.by(1, n), by[n]);
        }
        due("by(0, 2)", x.by(0, 2), 1);
        due("by(0, 3)", x.by(0, 3), 1);
        due("by(0, -1)", x.by(0, -1), 0);
        due("by(0, high)", x.by(0, HIGH), 0);
        due("by(0, low)", x.by(0, LOW), 0);
        due("by(2, 5)", x.by(2, 5), 42525);
        due("by(3, 0)", x.by(3, 0), 1);
        due("by(3, 1)", x.by(3, 1), 0);
        check.about("promise 32");
        fraction("likely(0)", x.likely(0, 0), x.likely(0, 1), 5, 2);
        // 6 by two, 21 by three, 10 by four, 1 by five: 120 of 38.
        fraction("likely(1)", x.likely(1, 0), x.likely(1, 1), 60, 19);
        fraction("likely(3)", x.likely(3, 0), x.likely(3, 1), 0, 1);
        due("likely(0, 2)", x.likely(0, 2), -2);
        due("likely(0, -1)", x.likely(0, -1), -2);
        check.about("promise 33");
        due("joined(0, 0, 1)", x.joined(0, 0, 1), 1);
        due("joined(0, 0, 2)", x.joined(0, 0, 2), 0);
        due("joined(0, 0, 0)", x.joined(0, 0, 0), -2);
        due("joined(0, 0, 3)", x.joined(0, 0, 3), -2);
        due("joined(0, -1, 0)", x.joined(0, -1, 0), -2);
        due("joined(0, 0, -1)", x.joined(0, 0, -1), -2);
        due("joined(0, 3, 0)", x.joined(0, 3, 0), -2);
        due("joined(0, low, high)", x.joined(0, LOW, HIGH), -2);
        // The other two girls: apart (then the boy has four places), together (three).
        due("joined(1, 0, 1)", x.joined(1, 0, 1), 4 + 3);
        // With the boy: 1 of four houses, 6 of three, 3 of two, always one place.
        due("joined(1, 0, 4)", x.joined(1, 0, 4), 10);
        due("joined(1, 4, 3)", x.joined(1, 4, 3), 10);
        due("joined(2, 8, 9)", x.joined(2, 8, 9), 21147);
        due("joined(3, 0, 1)", x.joined(3, 0, 1), -2);
        check.about("promise 34");
        due("daughters(0, 0)", x.daughters(0, 0), 4);
        due("daughters(0, 1)", x.daughters(0, 1), 6);
        due("daughters(1, 0)", x.daughters(1, 0), 4);
        due("daughters(1, 1)", x.daughters(1, 1), 10);
        due("daughters(2, 0)", x.daughters(2, 0), 10);
        due("daughters(2, 1)", x.daughters(2, 1), 100);
        due("daughters(3, 0)", x.daughters(3, 0), 0);
        due("daughters(0, 2)", x.daughters(0, 2), -2);
        check.about("promise 35");
        due("sorts(0)", x.sorts(0), 2);
        due("sorts(1)", x.sorts(1), 1);
        due("sorts(2)", x.sorts(2), 1);
        due("sorts(3)", x.sorts(3), 0);
    }

    private static void refusesTold(SisterCount x, int slot, int code) {
        due("least(" + slot + ")", x.least(slot), code);
        due("greatest(" + slot + ")", x.greatest(slot), code);
        due("joinings(" + slot + ")", x.joinings(slot), code);
        due("by(" + slot + ", -1)", x.by(slot, -1), code);
        due("likely(" + slot + ", 1)", x.likely(slot, 1), code);
        due("joined(" + slot + ", 0, 1)", x.joined(slot, 0, 1), code);
        due("daughters(" + slot + ", 0)", x.daughters(slot, 0), code);
        due("sorts(" + slot + ")", x.sorts(slot), code);
    }

    private static void toldRefusals() {
        check.about("promises 28 to 35");
        SisterCount x = Check.of(BARE);
        refusesTold(x, -1, -2);
        refusesTold(x, 4, -2);
        refusesTold(x, 0, -6);
        x.row(0, 0, 33);
        refusesTold(x, 0, -3);
        x.write(0, 0, 2);
        refusesTold(x, 0, -3);
        x.row(0, 0, 34);
        refusesTold(x, 0, -2);
        x.row(0, 0, 4);
        refusesTold(x, 0, -2);
        long[][] bad = {{2, 0, 0}, {-1, 0, 0}, {0, 10, 0}, {0, -1, 0}, {1, 0, 10}, {1, 0, -1}};
        for (int width = 0; width < 4; width++) {
            for (long[] three : bad) {
                Check.putRow(x, 1, width, 0, 1, 1, three[0], three[1], three[2]);
                refusesTold(x, 1, -2);
            }
        }
        Check.putRow(x, 2, 3, 1L << 32, 1, 1);
        refusesTold(x, 2, -2);
        Check.putRow(x, 2, 2, 1L << 32, 1, 1);
        due("least of numbers that were cut", x.least(2), 1);
        due("likely(0, 2) with a wrong row", x.likely(0, 2), -2);
        Check.putRow(x, 0, 0, 1, 0, 0);
        x.town();
        refusesTold(x, 0, -2);
        refusesTold(x, 3, -2);
    }

    private static void heard() {
        SisterCount x = Check.of(TOWN);
        // Truths: truth(0, 0) = 3, truth(1, 1) = 1, truth(6, 2) = 4, truth(4, 0) = 2.
        Check.putRow(x, 0, 0, 0, 0, 3, 1, 1, 2, 6, 2, 0, 6, 2, 4, 4, 0, 5, 6, 0, 7);
        check.about("promise 36");
        due("wrong(0)", x.wrong(0), 4);
        check.about("promise 37");
        due("bold(0)", x.bold(0), 6);
        check.about("promises 36, 37");
        x.write(0, 17, 0);
        due("wrong(0)", x.wrong(0), 3);
        due("bold(0), the first of several", x.bold(0), 1);
        Check.putRow(x, 1, 3, 0, 0, 3, 1, 1, 1L);
        due("wrong(1)", x.wrong(1), 0);
        due("bold(1)", x.bold(1), -1);
        Check.putRow(x, 1, 3, 0, 0, 3 + (1L << 40));
        due("a great number is wrong", x.wrong(1), 1);
        Check.putRow(x, 1, 1, 0, 0, 3 + (1L << 40));
        due("cut it is right", x.wrong(1), 0);
        x.row(2, 0, 0);
        due("nothing heard", x.wrong(2), 0);
        due("nobody bold", x.bold(2), -1);
        x.row(2, 0, 60);
        due("twenty times the same", x.wrong(2), 20);
        due("bold", x.bold(2), 0);
        long[][] bad = {{9, 0, 0}, {-1, 0, 0}, {0, 3, 0}, {0, -1, 0}};
        for (long[] three : bad) {
            Check.putRow(x, 1, 3, 0, 0, 3, three[0], three[1], three[2]);
            due("no such number", x.wrong(1), -2);
            due("no such number", x.bold(1), -2);
            Check.putRow(x, 1, 3, three[0], three[1], three[2], 0, 0, 3);
            due("no such number at first", x.wrong(1), -2);
            due("no such number at first", x.bold(1), -2);
        }
        x.row(1, 0, 4);
        due("not three each", x.wrong(1), -2);
        due("not three each", x.bold(1), -2);
        due("wrong(3)", x.wrong(3), -6);
        due("bold(3)", x.bold(3), -6);
        due("wrong(4)", x.wrong(4), -2);
        due("bold(-1)", x.bold(-1), -2);
        x.town();
        due("wrong without a town", x.wrong(0), -2);
        due("bold without a town", x.bold(3), -2);
    }

    private static void hiddenAndBread() {
        SisterCount x = Check.of(TOWN);
        check.about("promise 38");
        due("hidden(0, 0)", x.hidden(0, 0), 1);
        due("hidden(4, 0)", x.hidden(4, 0), 1);
        due("hidden(4, 1)", x.hidden(4, 1), 1);
        due("hidden(1, 2)", x.hidden(1, 2), 0);
        due("hidden(0, 2)", x.hidden(0, 2), 0);
        due("hidden(5, 0)", x.hidden(5, 0), -5);
        due("hidden(5, 3)", x.hidden(5, 3), -2);
        due("hidden(9, 0)", x.hidden(9, 0), -2);
        check.about("promise 39");
        due("bread(0)", x.bread(0), 3);
        due("bread(1)", x.bread(1), 3);
        due("bread(2)", x.bread(2), 0);
        due("bread(3)", x.bread(3), -2);
        due("bread(-1)", x.bread(-1), -2);
        x.years(1);
        // Without the oldest the tale is 18, by 2: 9, for four each.
        due("bread(0), rounded up", x.bread(0), 3);
        x.years(20);
        due("bread(0) of nobody", x.bread(0), 0);
        due("bread(2): too few", x.bread(2), -3);
        due("bread(0) without children", Check.of(BARE + "house;").bread(0), -5);
        due("bread(3) without children", Check.of(BARE + "house;").bread(3), -2);
        SisterCount y = Check.of(BARE + "house;girl 5;girl 5;girl 5;");
        due("bread(0)", y.bread(0), 3);
        due("bread(1)", y.bread(1), 1);
        due("bread(2): too many", y.bread(2), 2);
    }

    private static void marriages() {
        SisterCount x = Check.of(GROWN);
        check.about("promise 40");
        // By 0: 16 and 16. By 1: girl 16 and boy 16, girl 18 and boy 17. By 99: two of these, 30 and another.
        due("marriages(0)", x.marriages(0), 1);
        due("marriages(1)", x.marriages(1), 2);
        due("marriages(9)", x.marriages(9), 2);
        due("marriages(10)", x.marriages(10), 3);
        due("marriages(99)", x.marriages(99), 3);
        due("marriages(100)", x.marriages(100), -2);
        due("marriages(-1)", x.marriages(-1), -2);
        check.about("promise 41");
        due("between(0, 1, 99)", x.between(0, 1, 99), 2);
        due("between(1, 0, 1)", x.between(1, 0, 1), 1);
        due("between(0, 2, 99)", x.between(0, 2, 99), 1);
        due("between(1, 2, 99)", x.between(1, 2, 99), 1);
        due("between(1, 1, 1)", x.between(1, 1, 1), -2);
        due("between(0, 3, 1)", x.between(0, 3, 1), -2);
        due("between(-1, 0, 1)", x.between(-1, 0, 1), -2);
        due("between(0, 1, 100)", x.between(0, 1, 100), -2);
        check.about("promise 42");
        due("suits(0, 99)", x.suits(0, 99), 3);
        due("suits(0, 1)", x.suits(0, 1), 2);
        due("suits(0, 0)", x.suits(0, 0), 1);
        due("suits(4, 99)", x.suits(4, 99), 0);
        due("suits(7, 99)", x.suits(7, 99), 0);
        due("suits(6, 99)", x.suits(6, 99), 2);
        due("suits(8, 99)", x.suits(8, 99), -2);
        due("suits(0, 100)", x.suits(0, 100), -2);
        due("suits(0, -1)", x.suits(0, -1), -2);
        check.about("promise 43");
        int[] sought = {1, 1, 1, 1, 0, 1, 1, 0};
        for (int child = 0; child < 8; child++) {
            due("sought(" + child + ", 99)", x.sought(child, 99), sought[child]);
        }
        due("sought(0, 0)", x.sought(0, 0), 1);
        due("sought(1, 0)", x.sought(1, 0), 0);
        due("sought(8, 0)", x.sought(8, 0), -2);
        due("sought(0, 100)", x.sought(0, 100), -2);
        check.about("promises 40 to 43");
        x.years(1);
        due("a girl is of age: suits(4, 99)", x.suits(4, 99), 1);
        due("marriages(99)", x.marriages(99), 3);
        due("sought(5, 99)", x.sought(5, 99), 1);
        due("sought(0, 99)", x.sought(0, 99), 0);
        due("between(1, 2, 99)", x.between(1, 2, 99), 2);
    }

    private static void heirs() {
        SisterCount x = Check.of(TOWN);
        int[][][] heirs = {
            {{2, 0, 1, -1}, {4, 5, 6, -1}, {7, 8, -1, -1}, {-1, -1, -1, -1}},
            {{0, 2, 1, -1}, {6, 4, 5, -1}, {7, 8, -1, -1}, {-1, -1, -1, -1}},
            {{2, 0, 1, -1}, {5, 4, 6, -1}, {7, 8, -1, -1}, {-1, -1, -1, -1}}};
        for (int law = 0; law < 3; law++) {
            for (int house = 0; house < 4; house++) {
                for (int i = 0; i < 4; i++) {
                    check.about("promise 44");
                    due("heir(" + house + ", " + law + ", " + i + ")", x.heir(house, law, i), heirs[law][house][i]);
                    check.about("promise 45");
                    if (heirs[law][house][i] >= 0) {
                        due("place of an heir", x.place(heirs[law][house][i], law), i);
                    }
                }
            }
        }
        check.about("promise 44");
        due("heir(4, 0, 0)", x.heir(4, 0, 0), -2);
        due("heir(0, 3, 0)", x.heir(0, 3, 0), -2);
        due("heir(0, -1, 0)", x.heir(0, -1, 0), -2);
        due("heir(0, 0, high)", x.heir(0, 0, HIGH), -1);
        due("heir(0, 0, -1)", x.heir(0, 0, -1), -2);
        check.about("promise 45");
        due("place(3, 0)", x.place(3, 0), -1);
        due("place(3, 3)", x.place(3, 3), -2);
        due("place(9, 0)", x.place(9, 0), -2);
        due("place(-1, 0)", x.place(-1, 0), -2);
        check.about("promise 46");
        due("quarrel(0, 1)", x.quarrel(0, 1), 3);
        due("quarrel(0, 2)", x.quarrel(0, 2), 2);
        due("quarrel(2, 1)", x.quarrel(2, 1), 3);
        due("quarrel(1, 1)", x.quarrel(1, 1), 0);
        due("quarrel(3, 0)", x.quarrel(3, 0), -2);
        due("quarrel(0, -1)", x.quarrel(0, -1), -2);
    }

    private static void beds() {
        SisterCount x = Check.of(TOWN);
        check.about("promise 47");
        due("beds(0, 5)", x.beds(0, 5), 2);
        due("beds(0, 4)", x.beds(0, 4), 3);
        due("beds(1, 99)", x.beds(1, 99), 2);
        due("beds(3, 0)", x.beds(3, 0), 0);
        due("beds(4, 0)", x.beds(4, 0), -2);
        due("beds(0, 100)", x.beds(0, 100), -2);
        due("beds(0, -1)", x.beds(0, -1), -2);
        check.about("promise 48");
        due("squeeze(0, 3)", x.squeeze(0, 3), 0);
        due("squeeze(0, 2)", x.squeeze(0, 2), 5);
        due("squeeze(0, 1)", x.squeeze(0, 1), -1);
        due("squeeze(3, 0)", x.squeeze(3, 0), 0);
        due("squeeze(0, high)", x.squeeze(0, HIGH), 0);
        due("squeeze(0, -1)", x.squeeze(0, -1), -2);
        due("squeeze(4, 0)", x.squeeze(4, 0), -2);
        check.about("promises 47, 48");
        // By age 1, 4, 6, 9: the inner two alone by 2, each with a neighbour by 3.
        SisterCount y = Check.of(BARE + "house;girl 9;girl 1;girl 6;girl 4;girl 2 dead;girl 8 away;");
        due("beds(0, 1)", y.beds(0, 1), 4);
        due("beds(0, 2)", y.beds(0, 2), 3);
        due("beds(0, 3)", y.beds(0, 3), 2);
        due("squeeze(0, 2)", y.squeeze(0, 2), 3);
        SisterCount z = Check.of(BARE + "house;boy 5;boy 5;boy 5;boy 5;girl 5;");
        due("beds(0, 0)", z.beds(0, 0), 3);
    }

    private static void census() {
        SisterCount x = Check.of(TOWN);
        check.about("promise 49");
        due("census(0)", x.census(0), 3);
        due("census(1)", x.census(1), 3);
        due("census(2)", x.census(2), 6);
        due("census(3)", x.census(3), -2);
        due("census(-1)", x.census(-1), -2);
        check.about("promise 50");
        due("off(0)", x.off(0), 0);
        due("off(1)", x.off(1), -1);
        due("off(2)", x.off(2), 0);
        due("off(3)", x.off(3), -2);
        due("off(-1)", x.off(-1), -2);
        check.about("promises 49, 50");
        SisterCount y = Check.of(BARE + "house;girl 5;girl 3;house;boy 6 half;girl 6;girl 1;girl 2 half;"
            + "house;girl 7 half;girl 1;girl 1;girl 1;house;girl 1;");
        due("census(0)", y.census(0), 2 + 2 + 2);
        due("off(0), the farthest", y.off(0), 2);
        due("off(1)", y.off(1), -1);
        due("census(1)", y.census(1), 1);
    }

    private static void twinsAndAges() {
        check.about("promise 51");
        SisterCount x = Check.of(BARE + "house;girl 5;boy 5 half;girl 5 dead;girl 5 away;house;girl 5;");
        due("twins(0)", x.twins(0), 2);
        due("twins(1)", x.twins(1), 2);
        due("twins(4)", x.twins(4), 0);
        due("twins(5)", x.twins(5), -2);
        due("twins(-1)", x.twins(-1), -2);
        x.years(1);
        due("twins(0) a year on", x.twins(0), 2);
        due("twins(2), dead at another age", x.twins(2), 0);
    }

    private static void schools() {
        SisterCount x = Check.of(TOWN);
        check.about("promise 53");
        due("later(0)", x.later(0), 4);
        due("later(2)", x.later(2), 4);
        due("later(6)", x.later(6), 3);
        due("later(30)", x.later(30), 0);
        due("later(31)", x.later(31), -2);
        due("later(-1)", x.later(-1), -2);
        due("nothing happens", x.scholars(), 23);
        check.about("promise 54");
        due("school", x.school(), 2);
        x.years(4);
        due("school after years", x.school(), 6);
        x.years(30);
        // Now 48, 43, 40 | 44, 44 away, 50 | 36, 54: of ages 30 .. 38 one house, and none below.
        due("school of old ones", x.school(), 28);
    }

    private static void fitting() {
        SisterCount x = Check.of(TOWN);
        check.about("promise 55");
        int[] fits = {-1, 1, 2, -5, -1, -5, -5, -5, -5, -2};
        for (int child = 0; child < 10; child++) {
            due("fits(" + child + ")", x.fits(child), fits[child]);
        }
        due("fits(-1)", x.fits(-1), -2);
        SisterCount y = Check.of(BARE + "house;boy 1 dead;girl 5;girl 6 half;ask sisters;slip 1 0 2;slip 2 0 1;");
        due("fits(1), as a dead one would say", y.fits(1), 0);
        due("fits(2)", y.fits(2), -1);
        due("fits without questions", Check.of(BARE + "house;boy 1;girl 5;").fits(1), 0);
        check.about("promise 56");
        due("enough", x.enough(), 2);
        SisterCount z = Check.of(BARE + "house;girl 5;boy 7;house;girl 5;boy 9;house;boy 9;ask all;ask sisters;");
        due("some house has none", z.enough(), -1);
        z = Check.of(BARE + "house;girl 5;boy 7;house;girl 5;boy 9;ask all;slip 0 0 1;slip 2 0 2;");
        due("one of each", z.enough(), 2);
        due("nobody is at school", Check.of(BARE + "house;girl 1;").enough(), 0);
        due("one house alone", Check.of(BARE + "house;girl 5;").enough(), 1);
        due("two without questions", Check.of(BARE + "house;girl 5;house;boy 6;").enough(), -1);
    }

    private static void shares() {
        SisterCount x = Check.of(TOWN);
        check.about("promise 57");
        fraction("share(0)", x.share(0, 0), x.share(0, 1), 3, 4);
        fraction("share(1)", x.share(1, 0), x.share(1, 1), 1, 4);
        fraction("share(2)", x.share(2, 0), x.share(2, 1), 0, 1);
        due("share(0, 2)", x.share(0, 2), -2);
        due("share(4, 0)", x.share(4, 0), -2);
        due("share(-1, 0)", x.share(-1, 0), -2);
        check.about("promise 58");
        due("heavy", x.heavy(), 0);
        x.years(9);
        due("heavy, later", x.heavy(), 2);
        x.years(30);
        due("heavy of nobody", x.heavy(), -1);
        check.about("promise 57");
        due("share of nobody", x.share(0, 0), -5);
        due("share of nobody, no such what", x.share(0, 2), -2);
        check.about("promise 58");
        SisterCount y = Check.of(BARE + "house;house;girl 5;girl 6;house;boy 5;boy 6;");
        due("heavy, the first of several", y.heavy(), 1);
    }

    private static void onlyEldestSpread() {
        SisterCount x = Check.of(TOWN);
        check.about("promise 59");
        due("only", x.only(), 0);
        SisterCount y = Check.of(BARE + "house;girl 5;house;boy 3;boy 2 dead;house;house;boy 1 dead;house;girl 30 away;");
        due("only", y.only(), 1 + 8 + 16);
        check.about("promise 60");
        due("eldest(0)", x.eldest(0), 6);
        due("eldest(1)", x.eldest(1), 8);
        due("eldest(2)", x.eldest(2), 8);
        due("eldest(3)", x.eldest(3), -2);
        due("eldest(-1)", x.eldest(-1), -2);
        due("eldest(0)", y.eldest(0), 4);
        SisterCount z = Check.of(BARE + "house;girl 30 dead;boy 4;boy 4;");
        due("the least of several", z.eldest(1), 1);
        due("none is alive", z.eldest(0), -1);
        check.about("promise 61");
        due("spread(0)", x.spread(0), 8);
        due("spread(1)", x.spread(1), 6);
        due("spread(2)", x.spread(2), 18);
        due("spread(3)", x.spread(3), -1);
        due("spread(4)", x.spread(4), -2);
        due("spread(-1)", x.spread(-1), -2);
        due("spread of one", y.spread(1), 0);
        due("spread of the dead", y.spread(3), -1);
    }

    private static void clashes() {
        check.about("promise 62");
        // Girls 5, 6, 7 of one house clash by pairs; half ones, boys, absent ones and others aside.
        SisterCount x = Check.of(BARE + "house;girl 5;girl 6;girl 7;girl 8 half;boy 5;girl 3;"
            + "house;girl 5;boy 9 half;boy 8 half;ask all older;ask all;slip 8 1 1;");
        due("clash(0)", x.clash(0), 3 + 1);
        due("clash(1)", x.clash(1), 1);
        due("clash(2)", x.clash(2), -2);
        due("clash(-1)", x.clash(-1), -2);
        due("clash of none", Check.of(TOWN).clash(0), 0);
    }

    private static void lessAndPanel() {
        SisterCount x = Check.of(TOWN);
        check.about("promise 63");
        due("less(0, 0)", x.less(0, 0), 3);
        due("less(1, 0)", x.less(1, 0), 2);
        due("less(2, 0)", x.less(2, 0), 3);
        due("less(4, 0)", x.less(4, 0), 1);
        due("less(0, 1)", x.less(0, 1), 1);
        due("less(1, 1)", x.less(1, 1), 0);
        due("less(5, 0)", x.less(5, 0), -2);
        due("less(9, 0)", x.less(9, 0), -2);
        due("less(0, 3)", x.less(0, 3), -2);
        due("less(0, -1)", x.less(0, -1), -2);
        check.about("promise 64");
        int[][] sisters = {{5, 0}, {3, 1}, {0, 5}, {0, 19}, {3, 23}, {-1, -1}};
        for (int n = 0; n < 6; n++) {
            due("panel(" + n + ", 0, 0)", x.panel(n, 0, 0), sisters[n][0]);
            due("panel(" + n + ", 0, 1)", x.panel(n, 0, 1), sisters[n][1]);
        }
        due("panel(3, 1, 1)", x.panel(3, 1, 1), 21);
        due("panel(20, 2, 0)", x.panel(20, 2, 0), -1);
        due("panel(21, 2, 0)", x.panel(21, 2, 0), -2);
        due("panel(-1, 2, 0)", x.panel(-1, 2, 0), -2);
        due("panel(1, 3, 0)", x.panel(1, 3, 0), -2);
        due("panel(1, 0, 2)", x.panel(1, 0, 2), -2);
        due("panel(9, 0, 2)", x.panel(9, 0, 2), -2);
        // Twenty girls: six by six tell of six, two of two. Three of the former and one of the latter tell of 20.
        SisterCount z = Check.of("town school 0 to 9;" + ("house;" + "girl 3;".repeat(6)).repeat(3) + "house;girl 0;girl 9;");
        due("panel(3, 0, 0)", z.panel(3, 0, 0), 2);
        due("panel(3, 0, 1)", z.panel(3, 0, 1), 7);
        due("panel(4, 2, 0)", z.panel(4, 2, 0), 0);
        due("panel(4, 2, 1)", z.panel(4, 2, 1), 7 + (1 << 18));
        due("panel(20, 0, 0)", z.panel(20, 0, 0), 112 - 20);
        due("panel(20, 0, 1)", z.panel(20, 0, 1), (1 << 20) - 1);
        due("panel(18, 0, 0)", z.panel(18, 0, 0), 100 - 20);
        check.about("promise 65");
        due("just(0)", z.just(0), 4);
        due("just(0)", x.just(0), 2);
        due("just(1)", x.just(1), 3);
        due("just(3)", x.just(3), -2);
        due("just(-1)", x.just(-1), -2);
        SisterCount y = Check.of(BARE + "house;girl 5;girl 4;girl 4;girl 4;");
        due("none are to be had by nobody", y.just(1), 0);
        due("one tells it all", y.just(0), 1);
        due("by none", Check.of(BARE + "house;girl 5;girl 4;house;girl 1;").just(0), -1);
    }

    private static void changing() {
        SisterCount x = Check.of(TOWN);
        check.about("promise 66");
        due("changed(2, 4, 0)", x.changed(2, 4, 0), 0);
        due("changed(0, 6, 0)", x.changed(0, 6, 0), -2);
        due("changed(6, 0, 0)", x.changed(6, 0, 0), -2);
        due("changed(2, 6, 0)", x.changed(2, 6, 0), -2);
        due("changed(2, 6, 1)", x.changed(2, 6, 1), 2);
        due("all is as it was", x.child(2, 0), 0);
        due("all is as it was", x.tale(1), 4);
        due("changed(0, 1, 0)", x.changed(0, 1, 0), NOTHING);
        due("changed(0, 0, 0)", x.changed(0, 0, 0), NOTHING);
        due("changed(0, 9, 0)", x.changed(0, 9, 0), NOTHING);
        due("changed(-1, 0, 0)", x.changed(-1, 0, 0), NOTHING);
        due("changed(0, 4, 3)", x.changed(0, 4, 3), NOTHING);
        due("changed(0, 4, -1)", x.changed(0, 4, -1), NOTHING);
    }

    private static void drawing() {
        SisterCount x = Check.of(TOWN);
        // Draws for children 0, 1, 2, 4 by seed: 0: 0 68 88 17; 1: 38 58 13 15; 7: 64 6 68 74;
        // 42: 81 33 69 61; 2,000,000,000: 4 33 21 7; 2,000,000,001: 42 92 47 6.
        check.about("promise 67");
        due("drawn(0, 18, 0)", x.drawn(0, 18, 0), 2);
        due("drawn(0, 17, 0)", x.drawn(0, 17, 0), 1);
        due("drawn(0, 18, 1)", x.drawn(0, 18, 1), 3);
        due("drawn(0, 17, 1)", x.drawn(0, 17, 1), 1);
        due("drawn(0, 18, 2)", x.drawn(0, 18, 2), 6);
        due("drawn(0, 1, 0)", x.drawn(0, 1, 0), 1);
        due("drawn(0, 0, 0)", x.drawn(0, 0, 0), 0);
        due("drawn(0, 100, 0)", x.drawn(0, 100, 0), 4);
        due("drawn(0, 100, 2)", x.drawn(0, 100, 2), 12);
        due("drawn(42, 62, 1)", x.drawn(42, 62, 1), 3);
        due("drawn(42, 61, 1)", x.drawn(42, 61, 1), 1);
        due("drawn(2000000000, 7, 0)", x.drawn(2000000000, 7, 0), 1);
        due("drawn(2000000000, 8, 1)", x.drawn(2000000000, 8, 1), 3);
        due("drawn(2000000001, 8, 1)", x.drawn(2000000001, 8, 1), -2);
        due("drawn(-1, 8, 1)", x.drawn(-1, 8, 1), -2);
        due("drawn(0, 101, 1)", x.drawn(0, 101, 1), -2);
        due("drawn(0, -1, 1)", x.drawn(0, -1, 1), -2);
        due("drawn(0, 1, 3)", x.drawn(0, 1, 3), -2);
        due("drawn(0, 1, -1)", x.drawn(0, 1, -1), -2);
        check.about("promise 68");
        due("seen(0, 2, 16, 1)", x.seen(0, 2, 16, 1), 1);
        due("seen(0, 2, 18, 1)", x.seen(0, 2, 18, 1), 2);
        due("seen(0, 2, 14, 0)", x.seen(0, 2, 14, 0), 2);
        due("seen(0, 20, 100, 2)", x.seen(0, 20, 100, 2), 0);
        due("seen(0, 20, 100, 0)", x.seen(0, 20, 100, 0), 20);
        due("seen(2000000000, 2, 7, 1)", x.seen(2000000000, 2, 7, 1), 1);
        due("seen(2000000000, 2, 7, 0)", x.seen(2000000000, 2, 7, 0), 1);
        due("seen(0, 0, 7, 0)", x.seen(0, 0, 7, 0), -2);
        due("seen(0, 21, 7, 0)", x.seen(0, 21, 7, 0), -2);
        due("seen(0, 1, 7, 4)", x.seen(0, 1, 7, 4), -2);
        due("seen(0, 1, 7, -1)", x.seen(0, 1, 7, -1), -2);
        due("seen(-1, 1, 7, 0)", x.seen(-1, 1, 7, 0), -2);
        due("seen(0, 1, 101, 0)", x.seen(0, 1, 101, 0), -2);
    }

    private static void counting() {
        check.about("promise 69");
        SisterCount x = Check.of(TOWN);
        x.feed(0, 0, 0, 0, 0);
        x.end(7);
        x.years(1);
        x.row(0, 0, 0);
        x.row(2, 3, 60);
        int[] counts = {6, 14, 4, 9, 3, 3, 20, 7, 1, 2, -1};
        for (int what = 0; what < 11; what++) {
            due("count(" + what + ")", x.count(what), counts[what]);
        }
        due("count(-1)", x.count(-1), -1);
        x.end(0);
        x.town();
        for (int what = 0; what < 9; what++) {
            due("count(" + what + ") without a town", x.count(what), 0);
        }
        due("count(9) without a town", x.count(9), 2);
        due("count(10) without a town", x.count(10), -1);
    }

    private static void images() {
        SisterCount x = new SisterCount();
        check.about("promise 71");
        due("back(0)", x.back(0), -6);
        due("back(3)", x.back(3), -2);
        due("back(-1)", x.back(-1), -2);
        check.about("promise 70");
        due("image(3)", x.image(3), -2);
        due("image(-1)", x.image(-1), -2);
        due("image(2) of no town", x.image(2), 0);
        lines(x, TOWN);
        x.years(1);
        due("image(0)", x.image(0), 0);
        x.years(3);
        lines(x, GROWN);
        due("image(1)", x.image(1), 0);
        check.about("promise 71");
        Check.feedText(x, "tow");
        x.row(0, 0, 3);
        due("back(0)", x.back(0), 0);
        due("its years", x.count(8), 1);
        due("its lines", x.count(6), 20);
        due("its ages", x.child(0, 2), 15);
        due("its slips", x.answer(4, 0), 5);
        due("the tape is not of it", x.count(7), 3);
        due("the slots are not of it", x.count(9), 1);
        x.years(5);
        due("back(0) once more", x.back(0), 0);
        due("the image stayed", x.child(0, 2), 15);
        due("back(1)", x.back(1), 0);
        due("the other", x.marriages(99), 3);
        due("back(2)", x.back(2), 0);
        due("no town", x.scholars(), -2);
        due("nor lines", x.count(6), 0);
    }

    private static void rows() {
        SisterCount x = Check.of(BARE);
        check.about("promise 72");
        due("row(0, 0, 60)", x.row(0, 0, 60), 0);
        due("row(3, 3, 0)", x.row(3, 3, 0), 0);
        due("row(4, 0, 1)", x.row(4, 0, 1), -2);
        due("row(-1, 0, 1)", x.row(-1, 0, 1), -2);
        due("row(0, 4, 1)", x.row(0, 4, 1), -2);
        due("row(0, -1, 1)", x.row(0, -1, 1), -2);
        due("row(0, 0, 61)", x.row(0, 0, 61), -2);
        due("row(0, 0, -1)", x.row(0, 0, -1), -3);
        due("row(4, 0, -1)", x.row(4, 0, -1), -2);
        due("row(1, 0, -1)", x.row(1, 0, -1), -3);
        due("the slot stays", x.write(1, 0, 1), -6);
        due("the slot stays", x.write(0, 59, 1), 0);
        Check.putRow(x, 0, 0, 0, 1, 1, 0, 1, 1);
        due("row(0, 0, -1)", x.row(0, 0, -1), -3);
        due("its numbers stay", x.daughters(0, 1), 4);
        due("row(0, 0, 6)", x.row(0, 0, 6), 0);
        due("all 0", x.daughters(0, 1), 2);
        check.about("promise 73");
        due("write(4, 0, 1)", x.write(4, 0, 1), -2);
        due("write(-1, 0, 1)", x.write(-1, 0, 1), -2);
        due("write(2, 0, 1)", x.write(2, 0, 1), -6);
        due("write(0, 6, 1)", x.write(0, 6, 1), -7);
        due("write(0, -1, 1)", x.write(0, -1, 1), -7);
        due("write(3, 0, 1)", x.write(3, 0, 1), -7);
        long[] cuts = {1L << 8, 1L << 16, 1L << 32};
        for (int width = 0; width < 4; width++) {
            x.row(1, width, 3);
            for (int i = 0; i < 3; i++) {
                due("write", x.write(1, 1, 3 + cuts[i]), 0);
                due("cut to " + width, x.daughters(1, 0), i >= width ? 4 : -2);
            }
        }
    }

    private static void pasting() {
        SisterCount x = Check.of(BARE);
        check.about("promise 74");
        Check.putRow(x, 0, 0, 0, 1, 1, 0, 4, 0);
        x.row(1, 0, 9);
        x.row(2, 1, 9);
        due("paste", x.paste(0, 3, 1, 6, 3), 0);
        due("girls 1, 1, 5", x.daughters(1, 1), 7);
        due("to itself, upwards", x.paste(1, 4, 1, 1, 5), 0);
        // 0 0 0 | 0 0 0 | 0 4 0 has become 0 0 0 | 0 4 0 | 0 4 0.
        due("girls 1, 5, 5", x.daughters(1, 1), 11);
        due("to itself, downwards", x.paste(1, 0, 1, 3, 6), 0);
        due("girls 1, 1, 5", x.daughters(1, 1), 7);
        due("nothing of a row", x.paste(0, 6, 1, 9, 0), 0);
        due("paste(4, ..)", x.paste(4, 0, 0, 0, 1), -2);
        due("paste(.., -1, ..)", x.paste(0, 0, -1, 0, 1), -2);
        due("no row to paste from", x.paste(3, 0, 0, 0, 1), -6);
        due("no row to paste to", x.paste(0, 0, 3, 0, 1), -6);
        due("not of one width", x.paste(0, 0, 2, 0, 1), -8);
        due("not of one width, and beyond", x.paste(0, 9, 2, 0, 1), -8);
        due("beyond the first", x.paste(0, 4, 1, 0, 3), -7);
        due("beyond the second", x.paste(0, 0, 1, 7, 3), -7);
        due("a place below 0", x.paste(0, -1, 1, 0, 1), -7);
        due("another below 0", x.paste(0, 0, 1, -1, 1), -7);
        due("n below 0", x.paste(0, 3, 1, 3, -1), -7);
        due("high", x.paste(0, HIGH, 1, HIGH, HIGH), -7);
        due("low", x.paste(0, LOW, 1, LOW, LOW), -7);
        due("nothing from beyond", x.paste(0, 7, 1, 0, 0), -7);
        due("nothing happened", x.daughters(1, 1), 7);
    }

    private static void noTown() {
        check.about("no town");
        SisterCount x = new SisterCount();
        x.row(0, 0, 0);
        long[] answers = {
            x.child(0, 0), x.house(0, 0), x.scholars(), x.truth(0, 0), x.answer(0, 0), x.tale(0),
            x.are(0), x.seems(0, 0), x.weighed(0, 0), x.mean(0, 0), x.unseen(), x.comes(0),
            x.best(0), x.years(0), x.slips(0), x.kinds(0), x.crowd(0), x.next(), x.tells(0),
            x.fewest(0), x.like(0), x.most(0), x.least(0), x.greatest(0), x.joinings(0), x.by(0, 0),
            x.likely(0, 0), x.joined(0, 0, 1), x.daughters(0, 0), x.sorts(0), x.wrong(0), x.bold(0),
            x.hidden(0, 0), x.bread(0), x.marriages(0), x.between(0, 1, 0), x.suits(0, 0),
            x.sought(0, 0), x.heir(0, 0, 0), x.place(0, 0), x.quarrel(0, 1), x.beds(0, 0),
            x.squeeze(0, 0), x.census(0), x.off(0), x.twins(0), x.age(0, 0), x.later(0), x.school(),
            x.fits(0), x.enough(), x.share(0, 0), x.heavy(), x.only(), x.eldest(0), x.spread(0),
            x.clash(0), x.less(0, 0), x.panel(0, 0, 0), x.just(0), x.drawn(0, 0, 0), x.seen(0, 1, 0, 0)};
        for (int i = 0; i < answers.length; i++) {
            due("answer " + i, answers[i], -2);
        }
        due("changed", x.changed(0, 1, 0), NOTHING);
        due("NONE", SisterCount.NONE, -1);
    }

    private static void bareTown() {
        check.about("a town without houses");
        SisterCount x = Check.of(BARE);
        long[][] answers = {
            {x.scholars(), 0}, {x.tale(2), 0}, {x.are(2), 0}, {x.mean(0, 0), -5}, {x.unseen(), 0},
            {x.best(0), 0}, {x.best(1), 0}, {x.years(30), 0}, {x.years(30), 0}, {x.years(30), 0},
            {x.years(30), 0}, {x.slips(0), 0}, {x.slips(1), -1}, {x.next(), -1}, {x.tells(0), 0},
            {x.tells(1), -2}, {x.fewest(0), 0}, {x.fewest(1), 0}, {x.most(0), 0}, {x.bread(0), -5},
            {x.marriages(0), 0}, {x.quarrel(0, 1), 0}, {x.census(2), 0}, {x.off(2), -1},
            {x.later(30), 0}, {x.school(), 0}, {x.enough(), 0}, {x.heavy(), -1}, {x.only(), 0},
            {x.eldest(2), -1}, {x.panel(0, 0, 0), 0}, {x.panel(0, 0, 1), 0}, {x.panel(1, 0, 0), -1},
            {x.just(2), 0}, {x.drawn(1, 100, 0), 0}, {x.drawn(1, 100, 2), 0}, {x.seen(1, 1, 1, 0), -2}};
        for (int i = 0; i < answers.length; i++) {
            due("answer " + i, answers[i][0], answers[i][1]);
        }
    }
}
