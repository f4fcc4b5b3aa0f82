/** Children, houses and who is at school: terms II, III, promises 6 to 19, 52 to 54, 57 to 61. */
final class HouseBoundaries extends Sentences {
    /* Girls at both ends of the school ages and beyond them | a dead one | an away one | nobody. */
    private static final String EDGES = "town school 6 to 14;"
        + "house;girl 5;girl 6;girl 14;girl 15;"
        + "house;boy 10 dead;house;boy 10 away;house;ask all;";

    HouseBoundaries(Document document, Check check) {
        super(document, check);
    }

    void run() {
        atSchool();
        counting();
        halfOnes();
        taleAndThereAre();
        fractions();
        child();
        house();
        scholars();
        truth();
        answer();
        tale();
        are();
        seems();
        weighed();
        mean();
        unseen();
        comes();
        best();
        years();
        age();
        later();
        school();
        share();
        heavy();
        only();
        eldest();
        spread();
        endSentence();
    }

    private void atSchool() {
        says("II", "AT SCHOOL: CHILDREN of an age from school to to, who are not dead, not away.");
        due(EDGES, 2 + 4, "scholars()");
        due(EDGES.replace("6 to 14", "5 to 15"), 15, "scholars()");
        due(EDGES.replace("6 to 14", "7 to 13"), 0, "scholars()");
        due(EDGES.replace("6 to 14", "14 to 14"), 4, "scholars()");
        due("town school 0 to 30;house;girl 0;girl 30;girl 0 dead;girl 30 away;girl 5 dead away;", 3, "scholars()");
        says("II", "They are asked alone (SCHOLARS).");
        // The girls of 6 and 14 tell of four each; others of their house are told of, but tell nothing.
        due(EDGES, 8, "tale(0)");
        due(EDGES, 0, "tale(1)");
        due(EDGES, 1, "kinds(0)");
        due(EDGES, 2, "crowd(0)");
        due(EDGES, -5, "answer(0, 0)", "answer(3, 0)", "answer(4, 0)", "answer(5, 0)");
        due(EDGES, 6, "answer(1, 0)", "answer(2, 0)");
        fraction(Check.of(EDGES), 3, 1, "seems(0)");
    }

    private void counting() {
        says("II", "A CHILD counts another one of its HOUSE, if this is of the SORT (girls are sisters, boys brothers), "
            + "older (of a greater age) or younger, if that is asked, not dead, if living is asked;");
        SisterCount x = Check.of("town school 0 to 30;"
            + "house;girl 5;girl 5;boy 4;boy 6;girl 4 dead;girl 6 dead;house;girl 5;boy 5;house;girl 9;"
            + "ask sisters;ask brothers;ask all;ask all older;ask all younger;ask all living;");
        int[][] truths = {
            {6, 4, 10, 4, 4, 6}, {6, 4, 10, 4, 4, 6}, {8, 2, 10, 8, 0, 6}, {8, 2, 10, 0, 8, 6},
            {6, 4, 10, 8, 0, 8}, {6, 4, 10, 0, 8, 8}, {0, 2, 2, 0, 0, 2}, {2, 0, 2, 0, 0, 2}, {0, 0, 0, 0, 0, 0}};
        for (int child = 0; child < 9; child++) {
            for (int ask = 0; ask < 6; ask++) {
                due(x, truths[child][ask], "truth(" + child + ", " + ask + ")");
            }
        }
        // Dead ones stay at 4 and 6, the boys grow from 4 and 6 to 5 and 7.
        x.years(1);
        due(x, 2, "truth(0, 3)");
        due(x, 4, "truth(0, 4)");
        due(x, 4, "truth(5, 4)");
        due(x, 2, "truth(5, 3)");
    }

    private void halfOnes() {
        says("II", "two, or one, if just one of the two is half (none then, if whole is asked).");
        SisterCount x = Check.of(BARE + "house;girl 5 half;girl 5 half;girl 5;girl 5;house;girl 5;boy 5 half;"
            + "house;girl 5 half;boy 5 half;ask all;ask all whole;");
        int[][] truths = {{4, 2}, {4, 2}, {4, 2}, {4, 2}, {1, 0}, {1, 0}, {2, 2}, {2, 2}};
        for (int child = 0; child < 8; child++) {
            due(x, truths[child][0], "truth(" + child + ", 0)");
            due(x, truths[child][1], "truth(" + child + ", 1)");
        }
        says("II", "TRUTH: all that together. ANSWER: TRUTH and the slip.");
        String six = BARE + "house;" + "girl 5;".repeat(6) + "ask all;";
        due(six, 10, "truth(0, 0)", "answer(0, 0)");
        due(six + "slip 0 0 20;", 30, "answer(0, 0)");
        due(six + "slip 0 0 20;", 10, "truth(0, 0)", "answer(1, 0)");
        due(BARE + "house;boy 5;ask all;", 0, "truth(0, 0)", "answer(0, 0)");
    }

    private void taleAndThereAre() {
        says("III", "TALE of a SORT: of all SCHOLARS the TRUTH about sisters (brothers; all), all of them, and 2 for a "
            + "SCHOLAR who is of the SORT itself, together; by 2, cut.");
        String house = "house;girl 5 half;boy 3;";
        due(BARE + house, 0, "tale(1)");
        due(BARE + house, 1, "tale(0)", "tale(2)");
        due(BARE + house + house, 1, "tale(1)");
        due(BARE + house + house, 2, "tale(0)");
        due(BARE + house + house, 3, "tale(2)");
        due(BARE, 0, "tale(0)", "tale(1)", "tale(2)");
        // All of them: what questions ask, and slips, are nothing to it.
        String asked = BARE + "house;girl 5;girl 3 dead;girl 3 away;girl 3;ask sisters older living whole;slip 0 0 20;";
        due(asked, 4, "tale(0)", "tale(2)");
        due(asked, 0, "tale(1)");
        due(TWENTY, 100, "tale(0)", "tale(2)");
        says("III", "THERE ARE of a SORT: CHILDREN (dead ones, too).");
        due(asked, 4, "are(0)", "are(2)");
        due(BARE + "house;boy 3 dead;boy 3 dead away;", 2, "are(1)", "are(2)");
        due(BARE + "house;boy 3 dead;boy 3 dead away;", 0, "are(0)");
        due(FULL, 20, "are(2)");
    }

    private void fractions() {
        says("III", "FRACTIONS are told in lowest terms (0 / 1).");
        SisterCount x = Check.of(BARE + "house;girl 6;girl 6;house;boy 6;boy 6;ask sisters;ask brothers;slip 2 1 2;");
        // Sisters 2, 2, 0, 0; brothers 0, 0, 4, 2.
        fraction(x, 1, 2, "seems(0)");
        fraction(x, 3, 4, "seems(1)");
        fraction(x, 1, 2, "weighed(0)");
        fraction(x, 1, 1, "mean(0)");
        fraction(x, 2, 1, "mean(2)");
        fraction(x, 6, 1, "age(0)");
        fraction(x, 1, 2, "share(0)");
        x = Check.of(BARE + "house;girl 6;house;girl 0;ask brothers;");
        fraction(x, 0, 1, "seems(0)");
        fraction(x, 0, 1, "weighed(0)");
        fraction(x, 0, 1, "mean(1)");
        fraction(x, 0, 1, "age(1)");
        fraction(x, 0, 1, "share(1)");
        says("III", "SEEMS: the mean of ANSWERS over SCHOLARS, by 2. WEIGHED: each by one part of as many as SCHOLARS "
            + "of its HOUSE, over HOUSES that have SCHOLARS, by 2.");
        // Six, five and four scholars of a house, of whom one says 1 each, and a house that nobody sees.
        x = Check.of(BARE + "house;" + "girl 6;".repeat(6) + "house;" + "girl 6;".repeat(5) + "house;"
            + "girl 6;".repeat(4) + "house;girl 1;house;ask brothers;slip 0 0 1;slip 6 0 1;slip 11 0 1;");
        fraction(x, 1, 10, "seems(0)");
        fraction(x, 37, 360, "weighed(0)");
        x = Check.of(TWENTY);
        fraction(x, 4, 1, "seems(0)");
        fraction(x, 4, 1, "weighed(0)");
        // From one scholar of a house to six of one, of whom the last says 1.
        for (int n = 1; n <= 6; n++) {
            x = Check.of(BARE + "house;" + "girl 6;".repeat(n) + "house;girl 6;ask brothers;slip " + (n - 1) + " 0 1;");
            fraction(x, 1, 2 * (n + 1), "seems(0)");
            fraction(x, 1, 4 * n, "weighed(0)");
        }
    }

    private void child() {
        plain("6", "Of a CHILD, what 0: its HOUSE, 1: 0 a girl, 1 a boy,");
        says("6", "2: its age now,");
        SisterCount x = Check.of("town school 0 to 30;house;girl 0;boy 30;girl 7 dead;girl 8 away;");
        int[] ages = {0, 30, 7, 8};
        for (int year = 0; year < 3; year++) {
            for (int child = 0; child < 4; child++) {
                due(x, child == 2 ? 7 : ages[child] + 30 * year, "child(" + child + ", 2)");
            }
            x.years(30);
        }
        says("6", "3: 1 if it is half, 4: dead, 5: away, else 0.");
        for (int set = 0; set < 8; set++) {
            String words = ((set & 1) > 0 ? " half" : "") + ((set & 2) > 0 ? " dead" : "") + ((set & 4) > 0 ? " away" : "");
            String town = BARE + "house;girl 5;boy 5" + words + ";girl 5;";
            due(town, set & 1, "child(1, 3)");
            due(town, set >> 1 & 1, "child(1, 4)");
            due(town, set >> 2, "child(1, 5)");
            due(town, 0, "child(0, 3)", "child(0, 4)", "child(0, 5)", "child(2, 3)", "child(2, 4)", "child(2, 5)");
        }
        says("6", "-2: there are none such.");
        refuses(TOWN, -2, "child(9, 0)", "child(-1, 0)", "child(20, 0)", "child(low, 0)", "child(high, 0)",
            "child(0, -1)", "child(0, 6)", "child(0, low)", "child(0, high)", "child(9, 6)");
        refuses(FULL, -2, "child(20, 0)", "child(19, 6)");
        due(FULL, 4, "child(19, 0)");
        refuses(BARE + "house;", -2, "child(0, 0)");
        refusesWithoutTown(-2, "child(0, 0)", "child(19, 5)");
    }

    private void house() {
        plain("7", "Of a HOUSE, what 0: CHILDREN, 1: girls, 2: boys,");
        says("7", "3: SCHOLARS, 4: the first CHILD (NONE).");
        int[][] houses = {{4, 4, 0, 2, 0}, {1, 0, 1, 0, 4}, {1, 0, 1, 0, 5}, {0, 0, 0, 0, -1}};
        for (int house = 0; house < 4; house++) {
            for (int what = 0; what < 5; what++) {
                due(EDGES, houses[house][what], "house(" + house + ", " + what + ")");
            }
        }
        due(BARE + "house;house;girl 3;", -1, "house(0, 4)");
        due(BARE + "house;house;girl 3;", 0, "house(1, 4)");
        due(FULL, 6, "house(0, 0)", "house(0, 1)", "house(1, 2)", "house(1, 3)", "house(1, 4)");
        due(FULL, 19, "house(4, 4)");
        says("7", "-2: there are none such.");
        refuses(TOWN, -2, "house(4, 0)", "house(-1, 0)", "house(8, 4)", "house(low, 0)", "house(high, 0)",
            "house(0, -1)", "house(0, 5)", "house(0, low)", "house(0, high)", "house(4, 5)");
        refuses(FULL, -2, "house(8, 0)", "house(7, 5)");
        due(FULL, 0, "house(7, 0)");
        refuses(BARE, -2, "house(0, 0)");
        refusesWithoutTown(-2, "house(0, 0)", "house(7, 4)");
    }

    private void scholars() {
        says("8", "SCHOLARS, as bits.");
        due(TWENTY, (1 << 20) - 1, "scholars()");
        due(FULL, (1 << 20) - 1 - (1 << 16) - (1 << 17), "scholars()");
        due(BARE, 0, "scholars()");
        due(BARE + "house;girl 4;girl 10;", 0, "scholars()");
        says("8", "-2: there is no TOWN.");
        refusesWithoutTown(-2, "scholars()");
    }

    private void truth() {
        says("9", "TRUTH (II) of a CHILD about a QUESTION (a SCHOLAR or not).");
        due(EDGES, 6, "truth(0, 0)", "truth(1, 0)", "truth(2, 0)", "truth(3, 0)");
        due(EDGES, 0, "truth(4, 0)", "truth(5, 0)");
        due(TOWN, 3, "truth(3, 0)");
        due(TOWN, 2, "truth(5, 0)");
        due(TOWN, 0, "truth(7, 0)");
        due(TOWN, 1, "truth(8, 0)");
        says("9", "-2: there are none such.");
        refuses(TOWN, -2, "truth(9, 0)", "truth(-1, 0)", "truth(0, 3)", "truth(0, -1)", "truth(9, 3)",
            "truth(low, 0)", "truth(high, 0)", "truth(0, low)", "truth(0, high)");
        refuses(FULL, -2, "truth(20, 0)", "truth(0, 6)");
        due(FULL, 0, "truth(19, 5)");
        refuses(BARE + "house;girl 5;", -2, "truth(0, 0)");
        refuses(BARE + "ask all;", -2, "truth(0, 0)");
        refusesWithoutTown(-2, "truth(0, 0)", "truth(19, 5)");
    }

    private void answer() {
        plain("10", "ANSWER of a SCHOLAR.");
        says("10", "-2 likewise; -5: it is none.");
        refuses(TOWN, -2, "answer(9, 0)", "answer(-1, 0)", "answer(0, 3)", "answer(0, -1)", "answer(low, high)",
            "answer(3, 3)", "answer(5, -1)");
        refuses(FULL, -2, "answer(20, 0)", "answer(0, 6)");
        refuses(TOWN, -5, "answer(3, 0)", "answer(5, 1)", "answer(6, 2)", "answer(7, 0)", "answer(8, 0)");
        due(FULL, 20, "answer(19, 5)");
        due(EDGES, -5, "answer(0, 0)", "answer(3, 0)");
        refusesWithoutTown(-2, "answer(0, 0)", "answer(19, 5)");
        SisterCount x = Check.of(TOWN);
        x.years(1);
        due(x, -5, "answer(0, 0)");
    }

    private void tale() {
        plain("11", "TALE (III) of a SORT (0 sisters, 1 brothers, 2 all).");
        says("11", "-2: there is no such SORT, no TOWN.");
        refuses(TOWN, -2, "tale(3)", "tale(-1)", "tale(low)", "tale(high)");
        refusesWithoutTown(-2, "tale(0)", "tale(1)", "tale(2)");
        due(BARE, 0, "tale(2)");
    }

    private void are() {
        plain("12", "THERE ARE.");
        says("12", "-2 likewise.");
        refuses(TOWN, -2, "are(3)", "are(-1)", "are(low)", "are(high)");
        refusesWithoutTown(-2, "are(0)", "are(1)", "are(2)");
        due(BARE, 0, "are(2)");
    }

    private void seems() {
        plain("13", "SEEMS (III) by a QUESTION, above (what 0), below (1).");
        says("13", "-2: there are none such; -5: there are no SCHOLARS.");
        refuses(TOWN, -2, "seems(3, 0)", "seems(-1, 0)", "seems(low, 0)", "seems(high, 1)", "seems(0, 2)",
            "seems(0, -1)", "seems(0, low)", "seems(0, high)");
        refuses(FULL, -2, "seems(6, 0)");
        String nobody = BARE + "house;girl 4;girl 10;girl 7 dead;girl 7 away;ask all;";
        refuses(nobody, -5, "seems(0, 0)", "seems(0, 1)");
        refuses(nobody, -2, "seems(0, 2)", "seems(1, 0)");
        refuses(BARE, -2, "seems(0, 0)");
        refuses(BARE + "ask all;", -5, "seems(0, 0)");
        refusesWithoutTown(-2, "seems(0, 0)", "seems(0, 1)");
    }

    private void weighed() {
        plain("14", "WEIGHED.");
        says("14", "-2, -5 likewise.");
        refuses(TOWN, -2, "weighed(3, 0)", "weighed(-1, 0)", "weighed(low, 0)", "weighed(high, 1)", "weighed(0, 2)",
            "weighed(0, -1)", "weighed(0, low)", "weighed(0, high)");
        refuses(FULL, -2, "weighed(6, 0)");
        String nobody = BARE + "house;girl 4;girl 10;girl 7 dead;girl 7 away;ask all;";
        refuses(nobody, -5, "weighed(0, 0)", "weighed(0, 1)");
        refuses(nobody, -2, "weighed(0, 2)", "weighed(1, 0)");
        refuses(BARE + "ask all;", -5, "weighed(0, 0)");
        refusesWithoutTown(-2, "weighed(0, 0)", "weighed(0, 1)");
    }

    private void mean() {
        says("15", "The mean of CHILDREN of a SORT over all HOUSES (dead ones, too), above (what 0), below (1).");
        fraction(Check.of(BARE + "house;girl 5;girl 6 dead;house;house;boy 3 away;"), 2, 3, "mean(0)");
        fraction(Check.of(BARE + "house;girl 5;girl 6 dead;house;house;boy 3 away;"), 1, 1, "mean(2)");
        fraction(Check.of(BARE + "house;house;"), 0, 1, "mean(2)");
        fraction(Check.of(FULL), 5, 2, "mean(2)");
        says("15", "-2: there are none such; -5: there are no HOUSES.");
        refuses(TOWN, -2, "mean(3, 0)", "mean(-1, 0)", "mean(low, 0)", "mean(high, 0)", "mean(0, 2)", "mean(0, -1)",
            "mean(0, low)", "mean(0, high)");
        refuses(BARE, -5, "mean(0, 0)", "mean(2, 1)");
        refuses(BARE, -2, "mean(3, 0)", "mean(0, 2)");
        refusesWithoutTown(-2, "mean(0, 0)", "mean(2, 1)");
    }

    private void unseen() {
        says("16", "HOUSES with CHILDREN that have no SCHOLARS, as bits.");
        due(EDGES, 2 + 4, "unseen()");
        due(BARE + "house;house;", 0, "unseen()");
        due(TWENTY, 0, "unseen()");
        due(BARE + "house;boy 1;".repeat(8), 255, "unseen()");
        says("16", "-2: there is no TOWN.");
        refusesWithoutTown(-2, "unseen()");
    }

    private void comes() {
        says("17", "The first year from now (0: this one) in which a HOUSE has a SCHOLAR; NONE: never by 30.");
        String last = "town school 30 to 30;house;girl 0;house;girl 30;house;girl 29;boy 1;house;girl 0 dead;"
            + "house;boy 0 away;house;house;girl 0 dead;boy 3;";
        int[] years = {30, 0, 1, -1, -1, -1, 27};
        for (int house = 0; house < 7; house++) {
            due(last, years[house], "comes(" + house + ")");
        }
        due(BARE + "house;girl 10;", -1, "comes(0)");
        due(BARE + "house;girl 9;", 0, "comes(0)");
        due(BARE + "house;girl 4;", 1, "comes(0)");
        SisterCount x = Check.of(last);
        x.years(30);
        due(x, 0, "comes(0)");
        due(x, -1, "comes(1)");
        says("17", "-2: there is none such.");
        refuses(TOWN, -2, "comes(4)", "comes(-1)", "comes(8)", "comes(low)", "comes(high)");
        refuses(FULL, -2, "comes(8)");
        due(FULL, -1, "comes(7)");
        refusesWithoutTown(-2, "comes(0)", "comes(7)");
    }

    private void best() {
        says("18", "The most HOUSES that have SCHOLARS in one year, from now to 30 on (what 0), the first such year (1).");
        String last = "town school 30 to 30;house;girl 0;house;girl 0;house;girl 30;house;girl 29;";
        due(last, 2, "best(0)");
        due(last, 30, "best(1)");
        String now = "town school 30 to 30;house;girl 0;house;girl 0;house;girl 30;house;girl 30;";
        due(now, 2, "best(0)");
        due(now, 0, "best(1)");
        due(BARE, 0, "best(0)", "best(1)");
        due(BARE + "house;girl 10;", 0, "best(0)", "best(1)");
        due(BARE + "house;boy 1;".repeat(8), 8, "best(0)");
        due(BARE + "house;boy 1;".repeat(8), 4, "best(1)");
        says("18", "-2: there is no such what, no TOWN.");
        refuses(TOWN, -2, "best(2)", "best(-1)", "best(low)", "best(high)");
        refusesWithoutTown(-2, "best(0)", "best(1)");
    }

    private void years() {
        says("19", "n years (0 .. 30) go on: all who are not dead are so much older: SCHOLARS then, how many.");
        SisterCount x = Check.of("town school 30 to 30;house;girl 0;boy 0 away;girl 0 dead;boy 30;girl 30 half;");
        due(x, 2, "years(0)");
        due(x, 0, "count(8)");
        due(x, 1, "years(30)");
        due(x, 30, "count(8)");
        int[] ages = {30, 30, 0, 60, 60};
        for (int child = 0; child < 5; child++) {
            due(x, ages[child], "child(" + child + ", 2)");
        }
        due(x, 0, "years(1)");
        due(x, 31, "count(8)");
        says("19", "-2: there is no such n, no TOWN;");
        refuses(TOWN, -2, "years(31)", "years(-1)", "years(low)", "years(high)");
        refusesWithoutTown(-2, "years(0)", "years(30)");
        says("19", "-3: some would be above 99.");
        for (String who : new String[] {"girl 30", "boy 30 away", "boy 30 half"}) {
            x = Check.of(BARE + "house;" + who + ";girl 2;girl 30 dead;");
            x.years(30);
            x.years(30);
            refuses(x, -3, "years(10)");
            refuses(x, -3, "years(30)");
            due(x, -2, "years(31)");
            due(x, 0, "years(9)");
            due(x, 99, "child(0, 2)");
            due(x, 30, "child(2, 2)");
            due(x, -3, "years(1)");
            due(x, 0, "years(0)");
            due(x, 99, "child(0, 2)");
            due(x, 71, "child(1, 2)");
        }
        x = Check.of(BARE + "house;girl 30 dead;");
        for (int i = 0; i < 10; i++) {
            due(x, 0, "years(30)");
        }
        due(x, 300, "count(8)");
    }

    private void age() {
        says("52", "The mean age of a HOUSE's CHILDREN (as they are now; dead ones as they were), above (what 0), below (1).");
        SisterCount x = Check.of(BARE + "house;girl 5;boy 6 dead;girl 10 away;house;boy 0;");
        fraction(x, 7, 1, "age(0)");
        fraction(x, 0, 1, "age(1)");
        x.years(1);
        fraction(x, 23, 3, "age(0)");
        fraction(x, 1, 1, "age(1)");
        says("52", "-2: there are none such; -5: it has none.");
        refuses(TOWN, -5, "age(3, 0)", "age(3, 1)");
        refuses(TOWN, -2, "age(4, 0)", "age(-1, 0)", "age(low, 0)", "age(high, 1)", "age(0, 2)", "age(0, -1)",
            "age(3, 2)", "age(3, -1)");
        refuses(FULL, -2, "age(8, 0)");
        due(FULL, -5, "age(7, 0)");
        refusesWithoutTown(-2, "age(0, 0)", "age(7, 1)");
    }

    private void later() {
        says("53", "How many SCHOLARS there would be now, if school ages were n (0 .. 30) years more at both ends.");
        String town = "town school 3 to 4;house;girl 3;girl 4;girl 5;girl 6 dead;girl 6 away;boy 6;";
        int[] due = {2, 2, 2, 1, 0};
        for (int n = 0; n < 5; n++) {
            due(town, due[n], "later(" + n + ")");
        }
        due("town school 0 to 0;house;girl 0;girl 30;", 1, "later(0)", "later(30)");
        SisterCount x = Check.of("town school 30 to 30;house;girl 30;boy 29;");
        x.years(30);
        due(x, 1, "later(30)");
        due(x, 1, "later(29)");
        due(x, 0, "later(28)");
        due(x, 0, "scholars()");
        due(x, 30, "count(0)");
        says("53", "-2: there is no such n, no TOWN.");
        refuses(TOWN, -2, "later(31)", "later(-1)", "later(low)", "later(high)");
        refusesWithoutTown(-2, "later(0)", "later(30)");
    }

    private void school() {
        says("54", "The first school age (0 .. 30, as many years long as it is) by which most HOUSES are seen now, "
            + "the least of several.");
        due("town school 5 to 5;house;girl 30;", 30, "school()");
        due("town school 5 to 5;house;girl 0;", 0, "school()");
        due("town school 5 to 7;house;girl 10;house;boy 12;", 10, "school()");
        due("town school 5 to 7;house;girl 10;house;boy 13;", 8, "school()");
        due("town school 5 to 7;house;girl 10;house;boy 13;house;boy 10 dead;house;boy 13 away;", 8, "school()");
        due("town school 0 to 30;house;girl 30;house;girl 0;", 0, "school()");
        due(BARE, 0, "school()");
        due(BARE + "house;boy 3;boy 3;house;boy 20;house;boy 20;", 16, "school()");
        SisterCount x = Check.of("town school 0 to 5;house;girl 30;");
        x.years(5);
        due(x, 30, "school()");
        x.years(1);
        due(x, 0, "school()");
        says("54", "-2: there is no TOWN.");
        refusesWithoutTown(-2, "school()");
    }

    private void share() {
        says("57", "What part of all SCHOLARS is of a HOUSE, above (what 0), below (1).");
        fraction(Check.of(TOWN), 3, 4, "share(0)");
        fraction(Check.of(TOWN), 0, 1, "share(3)");
        fraction(Check.of(BARE + "house;girl 5;"), 1, 1, "share(0)");
        fraction(Check.of(TWENTY), 1, 4, "share(3)");
        says("57", "-2: there are none such; -5: there are no SCHOLARS.");
        refuses(TOWN, -2, "share(4, 0)", "share(-1, 0)", "share(low, 0)", "share(high, 0)", "share(0, 2)",
            "share(0, -1)", "share(0, low)", "share(0, high)");
        refuses(FULL, -2, "share(8, 0)");
        refuses(BARE + "house;girl 4;house;", -5, "share(0, 0)", "share(1, 1)");
        refuses(BARE + "house;girl 4;house;", -2, "share(0, 2)", "share(2, 0)");
        refuses(BARE, -2, "share(0, 0)");
        refusesWithoutTown(-2, "share(0, 0)", "share(7, 1)");
    }

    private void heavy() {
        says("58", "The HOUSE of which that is most, the first of several; NONE: there are no SCHOLARS.");
        due(BARE + "house;girl 3;girl 3;girl 3;house;girl 5;house;boy 5;boy 6;house;girl 5;girl 6;", 2, "heavy()");
        due(BARE + "house;girl 5;".repeat(8), 0, "heavy()");
        due(BARE + "house;".repeat(8) + "girl 5;", 7, "heavy()");
        due(BARE + "house;girl 4;", -1, "heavy()");
        due(BARE, -1, "heavy()");
        says("58", "-2: there is no TOWN.");
        refusesWithoutTown(-2, "heavy()");
    }

    private void only() {
        says("59", "CHILDREN that are the only one of their HOUSE (dead ones count), as bits.");
        due(BARE + "house;girl 5;house;house;boy 3;boy 2 dead;house;boy 1 dead;house;girl 30 away;", 1 + 8 + 16, "only()");
        due(BARE + "house;", 0, "only()");
        due(BARE + "house;girl 5;".repeat(8), 255, "only()");
        due(FULL, 3 << 18, "only()");
        says("59", "-2: there is no TOWN.");
        refusesWithoutTown(-2, "only()");
    }

    private void eldest() {
        says("60", "The oldest CHILD of a SORT who is not dead, the least of several; NONE: there is none.");
        String town = BARE + "house;girl 30 dead;boy 4;girl 0;house;boy 4;boy 3;girl 0 away;";
        due(town, 2, "eldest(0)");
        due(town, 1, "eldest(1)", "eldest(2)");
        due(BARE + "house;girl 5;girl 5;boy 5;", 0, "eldest(0)", "eldest(2)");
        due(BARE, -1, "eldest(0)", "eldest(1)", "eldest(2)");
        due(BARE + "house;girl 30 dead;boy 0;", -1, "eldest(0)");
        due(BARE + "house;girl 30 dead;boy 0;", 1, "eldest(1)", "eldest(2)");
        due(FULL, 18, "eldest(0)", "eldest(2)");
        due(FULL, 17, "eldest(1)");
        says("60", "-2: there is no such SORT, no TOWN.");
        refuses(TOWN, -2, "eldest(3)", "eldest(-1)", "eldest(low)", "eldest(high)");
        refusesWithoutTown(-2, "eldest(0)", "eldest(2)");
    }

    private void spread() {
        says("61", "How many years lie between the oldest and the youngest of a HOUSE who are not dead.");
        String town = BARE + "house;girl 30;boy 0;house;girl 7;house;girl 7;boy 30 dead;boy 9 away;house;boy 5 dead;house;";
        due(town, 30, "spread(0)");
        due(town, 0, "spread(1)");
        due(town, 2, "spread(2)");
        SisterCount x = Check.of(BARE + "house;girl 30;");
        for (int i = 0; i < 2; i++) {
            x.years(30);
        }
        x.years(9);
        due(x, 0, "spread(0)");
        says("61", "NONE: there are none; -2: there is none such.");
        due(town, -1, "spread(3)", "spread(4)");
        refuses(town, -2, "spread(5)", "spread(-1)", "spread(low)", "spread(high)");
        refuses(FULL, -2, "spread(8)");
        due(FULL, -1, "spread(7)");
        refusesWithoutTown(-2, "spread(0)", "spread(7)");
    }
}
