/** Answers and what they tell: term IV, promises 20 to 27, 36 to 38, 55, 56 and 62. */
final class AnswerBoundaries extends Sentences {
    /* Nobody is at school. */
    private static final String NOBODY = BARE + "house;girl 4;girl 10;house;girl 7 dead;boy 7 away;ask all;ask sisters;";

    AnswerBoundaries(Document document, Check check) {
        super(document, check);
    }

    void run() {
        telling();
        slips();
        kinds();
        crowd();
        next();
        tells();
        fewest();
        like();
        most();
        wrong();
        wrongRefusals();
        bold();
        hidden();
        fits();
        enough();
        clash();
        endSentence();
    }

    private void telling() {
        says("IV", "QUESTIONS of a set TELL a HOUSE, if no SCHOLAR of it gives to all of them the ANSWERS that one of "
            + "another HOUSE gives.");
        // One alike scholar is enough not to be told; those of one house may be alike.
        String town = BARE + "house;girl 5;girl 6;house;girl 5;girl 5;house;boy 5;boy 6;boy 7;ask all;ask sisters;ask all older;";
        due(town, 4, "tells(1)");
        due(town, 4, "tells(2)");
        due(town, 0, "tells(4)");
        due(town, 4, "tells(5)", "tells(7)");
        // With slips no one of the first house says 2, 2, 0 any more.
        due(town + "slip 1 0 1;", 4, "tells(1)");
        due(town + "slip 0 0 1;slip 1 0 1;", 4 + 2 + 1, "tells(1)");
        due(town + "slip 0 0 1;slip 1 1 1;", 7, "tells(3)");
        due(town + "slip 0 0 1;slip 1 1 1;", 4, "tells(1)");
        // Whoever is not at school gives no answers.
        due(BARE + "house;girl 5;house;girl 4;girl 10;girl 5 dead;girl 5 away;house;boy 5;boy 5;ask all;", 5, "tells(1)");
        due(BARE + "house;girl 5;house;girl 4;", 1, "tells(0)");
        due(BARE + "house;girl 5;house;girl 5;", 0, "tells(0)");
    }

    private void slips() {
        plain("20", "ANSWERS that are not the TRUTH: how many (what 0),");
        says("20", "of the CHILD with most of them, the first of several (1; NONE: there are none).");
        String town = BARE + "house;girl 4;girl 5;girl 6;girl 7;ask all;ask sisters;";
        due(town, 0, "slips(0)");
        due(town, -1, "slips(1)");
        due(town + "slip 0 0 1;slip 0 1 1;", 0, "slips(0)");
        due(town + "slip 0 0 1;slip 0 1 1;", -1, "slips(1)");
        due(town.replace("girl 4", "girl 5") + "slip 3 0 1;slip 0 1 1;", 0, "slips(1)");
        due(town + "slip 3 0 20;slip 2 1 1;", 2, "slips(0)", "slips(1)");
        due(town + "slip 2 0 1;slip 3 0 1;slip 3 1 1;", 3, "slips(0)", "slips(1)");
        due(town + "slip 3 0 1;slip 3 0 2;slip 2 0 1;", 2, "slips(0)", "slips(1)");
        due(BARE, 0, "slips(0)");
        due(BARE, -1, "slips(1)");
        due(FULL, 1, "slips(0)");
        due(FULL, 19, "slips(1)");
        says("20", "-2: there is no such what, no TOWN.");
        refuses(TOWN, -2, "slips(2)", "slips(-1)", "slips(low)", "slips(high)");
        refusesWithoutTown(-2, "slips(0)", "slips(1)");
    }

    private void kinds() {
        plain("21", "How many unlike ANSWERS SCHOLARS give to a QUESTION.");
        says("21", "-2: there is none such.");
        refuses(TOWN, -2, "kinds(3)", "kinds(-1)", "kinds(low)", "kinds(high)");
        refuses(FULL, -2, "kinds(6)");
        refuses(BARE, -2, "kinds(0)");
        due(NOBODY, 0, "kinds(0)", "kinds(1)");
        due(TWENTY, 1, "kinds(0)");
        // 10 where six are alike, 4 by whole ones, 2 by half ones, 0 alone, 20 by a slip.
        due(FULL, 5, "kinds(5)");
        refusesWithoutTown(-2, "kinds(0)", "kinds(5)");
    }

    private void crowd() {
        says("22", "The most SCHOLARS who give one ANSWER to it.");
        due(NOBODY, 0, "crowd(0)");
        due(TWENTY, 20, "crowd(0)", "crowd(1)");
        due(BARE + "house;girl 5;ask all;", 1, "crowd(0)");
        due(BARE + "house;girl 5;girl 6;girl 7;house;girl 5;ask all;ask all older;", 3, "crowd(0)");
        due(BARE + "house;girl 5;girl 6;girl 7;house;girl 5;ask all;ask all older;", 2, "crowd(1)");
        says("22", "-2 likewise.");
        refuses(TOWN, -2, "crowd(3)", "crowd(-1)", "crowd(low)", "crowd(high)");
        refuses(FULL, -2, "crowd(6)");
        refuses(BARE, -2, "crowd(0)");
        refusesWithoutTown(-2, "crowd(0)", "crowd(5)");
    }

    private void next() {
        says("23", "The QUESTION of which that is least, the first of several; NONE: there are no QUESTIONS.");
        String girls = BARE + "house;girl 5;girl 6;girl 7;";
        due(girls + "ask all;ask all older;ask all younger;", 1, "next()");
        due(girls + "ask all;ask sisters;", 0, "next()");
        due(girls + "ask all;".repeat(5) + "ask all older;", 5, "next()");
        due(girls, -1, "next()");
        due(BARE, -1, "next()");
        due(NOBODY, 0, "next()");
        due(BARE + "ask all;", 0, "next()");
        due(TWENTY, 0, "next()");
        says("23", "-2: there is no TOWN.");
        refusesWithoutTown(-2, "next()");
    }

    private void tells() {
        says("24", "HOUSES with SCHOLARS that QUESTIONS of a set (bits) TELL (IV), as bits.");
        due(NOBODY, 0, "tells(0)", "tells(3)");
        due(BARE, 0, "tells(0)");
        due(BARE + "house;".repeat(8) + "girl 5;", 128, "tells(0)");
        due(BARE + "house;".repeat(8) + "girl 5;ask all;", 128, "tells(0)", "tells(1)");
        due(FULL, 0, "tells(0)");
        due(FULL, 31, "tells(63)");
        says("24", "-2: there are none such, no TOWN.");
        refuses(TOWN, -2, "tells(8)", "tells(-1)", "tells(15)", "tells(low)", "tells(high)");
        refuses(FULL, -2, "tells(64)", "tells(127)", "tells(-1)");
        refuses(BARE, -2, "tells(1)");
        refusesWithoutTown(-2, "tells(0)", "tells(63)");
    }

    private void fewest() {
        says("25", "The fewest QUESTIONS that TELL as many HOUSES as all do: how many (what 0), which (1: the least set).");
        // All tell nothing: then so does none.
        String alike = BARE + "house;girl 5;house;girl 5;ask all;ask sisters;";
        due(alike, 0, "fewest(0)", "fewest(1)");
        due(BARE, 0, "fewest(0)", "fewest(1)");
        due(NOBODY, 0, "fewest(0)", "fewest(1)");
        due(BARE + "house;girl 5;ask all;", 0, "fewest(0)", "fewest(1)");
        // The second and the third tell both houses, the first none.
        String second = BARE + "house;girl 5;house;girl 5;boy 4;ask sisters;ask brothers;ask all;";
        due(second, 1, "fewest(0)");
        due(second, 2, "fewest(1)");
        // One of them tells no house, two tell three: 0 with 1 as well as 2 with 3; then 0 with 1.
        String two = BARE + "house;girl 5;house;girl 5;house;girl 5;ask sisters;ask sisters;ask sisters;ask sisters;";
        String slips = "slip 0 0 1;slip 1 0 1;slip 0 1 1;slip 2 1 1;slip 0 2 1;slip 1 2 1;slip 0 3 1;slip 2 3 1;";
        due(two + slips, 2, "fewest(0)");
        due(two + slips, 3, "fewest(1)");
        // Six houses and six questions: each question tells one house from all the others.
        StringBuilder six = new StringBuilder(BARE + "house;girl 5;".repeat(7) + "ask all;".repeat(6));
        for (int i = 0; i < 6; i++) {
            six.append("slip ").append(i).append(' ').append(i).append(" 1;");
        }
        due(six.toString(), 6, "fewest(0)");
        due(six.toString(), 63, "fewest(1)");
        due(six.toString(), 127, "tells(63)");
        says("25", "-2: there is no such what, no TOWN.");
        refuses(TOWN, -2, "fewest(2)", "fewest(-1)", "fewest(low)", "fewest(high)");
        refusesWithoutTown(-2, "fewest(0)", "fewest(1)");
    }

    private void like() {
        says("26", "HOUSES from which, by ANSWERS to all QUESTIONS, a SCHOLAR can be, as bits (its own, too).");
        due(BARE + "house;girl 5;".repeat(8), 255, "like(0)", "like(7)");
        due(BARE + "house;girl 5;".repeat(8) + "ask all;slip 3 0 1;", 255 - 8, "like(0)", "like(7)");
        due(BARE + "house;girl 5;".repeat(8) + "ask all;slip 3 0 1;", 8, "like(3)");
        due(BARE + "house;girl 5;house;girl 4;house;ask all;", 1, "like(0)");
        says("26", "-2: there is no such CHILD; -5: it is none.");
        refuses(TOWN, -2, "like(9)", "like(-1)", "like(low)", "like(high)");
        refuses(FULL, -2, "like(20)");
        refuses(TOWN, -5, "like(3)", "like(5)", "like(6)", "like(7)", "like(8)");
        due(FULL, 16, "like(19)");
        refusesWithoutTown(-2, "like(0)", "like(19)");
    }

    private void most() {
        says("27", "The most HOUSES that are told by one set of n (0 .. 6) QUESTIONS.");
        StringBuilder six = new StringBuilder(BARE + "house;girl 5;".repeat(7) + "ask all;".repeat(6));
        for (int i = 0; i < 6; i++) {
            six.append("slip ").append(i).append(' ').append(i).append(" 1;");
        }
        int[] told = {0, 1, 2, 3, 4, 5, 7};
        for (int n = 0; n < 7; n++) {
            due(six.toString(), told[n], "most(" + n + ")");
        }
        due(BARE, 0, "most(0)");
        due(BARE + "house;girl 5;", 1, "most(0)");
        due(NOBODY, 0, "most(0)", "most(1)", "most(2)");
        says("27", "-2: there are not so many, no TOWN.");
        refuses(six.toString(), -2, "most(7)", "most(-1)", "most(low)", "most(high)");
        refuses(TOWN, -2, "most(4)", "most(6)", "most(-1)");
        refuses(BARE, -2, "most(1)");
        refusesWithoutTown(-2, "most(0)", "most(6)");
    }

    private static SisterCount heard(String town, int width, long... numbers) {
        SisterCount x = Check.of(town);
        Check.putRow(x, 3, width, numbers);
        return x;
    }

    private void wrong() {
        says("36", "HEARD: a SLOT's row, three numbers each, a CHILD, a QUESTION, what it is told to have said: how many "
            + "are not the TRUTH.");
        due(heard(TOWN, 0), 0, "wrong(3)");
        due(heard(TOWN, 0, 0, 0, 3), 0, "wrong(3)");
        due(heard(TOWN, 0, 0, 0, 2), 1, "wrong(3)");
        due(heard(TOWN, 0, 0, 0, -3), 1, "wrong(3)");
        // The truth, not the answer; of those who are not at school, too.
        due(heard(TOWN, 0, 4, 0, 5, 4, 0, 2, 3, 0, 3, 3, 0, 2), 2, "wrong(3)");
        due(heard(FULL, 0, 19, 5, 0, 19, 5, 20), 1, "wrong(3)");
        due(heard(TOWN, 3, 0, 0, Long.MIN_VALUE, 0, 0, Long.MAX_VALUE, 0, 0, 3 + (1L << 32)), 3, "wrong(3)");
        due(heard(TOWN, 0, 0, 0, 3 + 256, 0, 0, 3 - 256, 0, 0, 3 + (1L << 32)), 0, "wrong(3)");
        due(heard(TOWN, 1, 0, 0, 3 + 256, 0, 0, 3 + 65536), 1, "wrong(3)");
        due(heard(TOWN, 2, 0, 0, 3 + 65536, 0, 0, 3 + (1L << 32)), 1, "wrong(3)");
        // More than ten: twenty are heard.
        due(heard(TOWN, 0, new long[60]), 20, "wrong(3)");
        due(heard(TOWN, 0, new long[33]), 11, "wrong(3)");
    }

    private void wrongRefusals() {
        says("36", "-2: there is no such SLOT, no TOWN, a number is no CHILD, no QUESTION (asked last), not three each; "
            + "-6: it has nothing.");
        for (String name : new String[] {"wrong", "bold"}) {
            refuses(TOWN, -2, name + "(4)", name + "(-1)", name + "(low)", name + "(high)");
            refuses(TOWN, -6, name + "(0)", name + "(1)", name + "(2)", name + "(3)");
            refusesWithoutTown(-2, name + "(0)", name + "(1)", name + "(3)");
            for (int width = 0; width < 4; width++) {
                for (long[] bad : new long[][] {{9, 0, 0}, {-1, 0, 0}, {0, 3, 0}, {0, -1, 0}, {20, 0, 0}, {0, 6, 0}}) {
                    refuses(heard(TOWN, width, bad), -2, name + "(3)");
                    refuses(heard(TOWN, width, 0, 0, 0, bad[0], bad[1], bad[2]), -2, name + "(3)");
                    refuses(heard(TOWN, width, bad[0], bad[1], bad[2], 0, 0, 0), -2, name + "(3)");
                }
            }
            refuses(heard(TOWN, 3, 1L << 32, 0, 3), -2, name + "(3)");
            refuses(heard(TOWN, 3, 0, 1L << 32, 3), -2, name + "(3)");
            refuses(heard(FULL, 0, 20, 0, 0), -2, name + "(3)");
            refuses(heard(FULL, 0, 0, 6, 0), -2, name + "(3)");
            refuses(heard(BARE + "house;girl 5;", 0, 0, 0, 0), -2, name + "(3)");
            for (int length : new int[] {1, 2, 4, 5, 58, 59}) {
                refuses(heard(TOWN, 0, new long[length]), -2, name + "(3)");
            }
        }
        due(heard(TOWN, 2, 1L << 32, 1L << 32, 3), 0, "wrong(3)");
        due(heard(BARE, 0), 0, "wrong(3)");
    }

    private void bold() {
        says("37", "The CHILD of whom most are, the first of several; NONE: none is.");
        due(heard(TOWN, 0), -1, "bold(3)");
        due(heard(TOWN, 0, 0, 0, 3), -1, "bold(3)");
        due(heard(TOWN, 0, 8, 0, 9), 8, "bold(3)");
        due(heard(TOWN, 0, 8, 0, 9, 0, 0, 9), 0, "bold(3)");
        due(heard(TOWN, 0, 0, 0, 9, 8, 0, 9, 8, 1, 9), 8, "bold(3)");
        due(heard(TOWN, 0, 0, 0, 9, 8, 0, 9, 8, 0, 1), 0, "bold(3)");
        due(heard(FULL, 0, 19, 5, 20), 19, "bold(3)");
        says("37", "-2, -6 likewise.");
        refuses(TOWN, -2, "bold(4)", "bold(-1)");
        refuses(TOWN, -6, "bold(3)");
        refuses(heard(TOWN, 0, 0, 0, 0, 0), -2, "bold(3)");
        refuses(heard(TOWN, 0, 9, 0, 0), -2, "bold(3)");
        refuses(heard(TOWN, 0, 0, 3, 0), -2, "bold(3)");
        refusesWithoutTown(-2, "bold(0)", "bold(3)");
    }

    private void hidden() {
        says("38", "How many of the CHILDREN whom a SCHOLAR counts (II) for a QUESTION are no SCHOLARS.");
        String town = BARE + "house;girl 7;girl 7;girl 4;boy 10;girl 7 dead;girl 7 away;"
            + "house;girl 5;girl 3 half;ask all;ask sisters;ask all older;ask all younger;ask all living;ask all whole;";
        int[][] hidden = {{4, 3, 1, 1, 3, 4}, {1, 1, 0, 1, 1, 0}};
        for (int ask = 0; ask < 6; ask++) {
            due(town, hidden[0][ask], "hidden(0, " + ask + ")", "hidden(1, " + ask + ")");
            due(town, hidden[1][ask], "hidden(6, " + ask + ")");
        }
        due(BARE + "house;girl 4;girl 5;ask all;", 1, "hidden(1, 0)");
        due(TWENTY, 0, "hidden(0, 0)", "hidden(19, 1)");
        says("38", "-2: there are none such; -5: it is none.");
        refuses(TOWN, -2, "hidden(9, 0)", "hidden(-1, 0)", "hidden(0, 3)", "hidden(0, -1)", "hidden(low, high)",
            "hidden(3, 3)");
        refuses(TOWN, -5, "hidden(3, 0)", "hidden(5, 0)", "hidden(6, 0)", "hidden(7, 0)", "hidden(8, 2)");
        refuses(FULL, -2, "hidden(20, 0)", "hidden(0, 6)");
        due(FULL, 0, "hidden(19, 5)");
        refusesWithoutTown(-2, "hidden(0, 0)", "hidden(19, 5)");
    }

    private void fits() {
        says("55", "Whether a SCHOLAR's ANSWERS to all QUESTIONS can be TRUTHS of some CHILD of its HOUSE: the least such "
            + "CHILD; NONE: of none.");
        String town = BARE + "house;girl 3;house;boy 1 dead;girl 5;girl 6;girl 7 half;ask sisters;";
        // Sisters: the dead boy 5, the girls 3, 3, 2.
        due(town, 2, "fits(2)", "fits(3)");
        due(town, 4, "fits(4)");
        due(town + "slip 2 0 2;slip 3 0 1;slip 4 0 1;", 1, "fits(2)");
        due(town + "slip 2 0 2;slip 3 0 1;slip 4 0 1;", -1, "fits(3)");
        due(town + "slip 2 0 2;slip 3 0 1;slip 4 0 1;", 2, "fits(4)");
        due(town + "ask all;slip 2 0 2;", 1, "fits(2)");
        due(town + "ask brothers;slip 2 0 2;", -1, "fits(2)");
        due(BARE + "house;boy 3;house;boy 1;girl 5;", 1, "fits(2)");
        due(BARE + "house;girl 5;girl 6;ask all;", 0, "fits(0)", "fits(1)");
        due(FULL, -1, "fits(19)");
        says("55", "-2: there is none such; -5: it is no SCHOLAR.");
        refuses(TOWN, -2, "fits(9)", "fits(-1)", "fits(low)", "fits(high)");
        refuses(FULL, -2, "fits(20)");
        refuses(TOWN, -5, "fits(3)", "fits(5)", "fits(6)", "fits(7)", "fits(8)");
        refusesWithoutTown(-2, "fits(0)", "fits(19)");
    }

    private void enough() {
        says("56", "The fewest SCHOLARS by whose ANSWERS to all QUESTIONS each HOUSE that has SCHOLARS is sure to be one of "
            + "the TOWN: one of each who could be of no other HOUSE by like(); NONE: some HOUSE has none such.");
        due(BARE, 0, "enough()");
        due(NOBODY, 0, "enough()");
        due(BARE + "house;girl 5;", 1, "enough()");
        due(BARE + "house;girl 5;girl 6;house;girl 4;house;", 1, "enough()");
        due(BARE + "house;girl 5;house;girl 5;", -1, "enough()");
        due(BARE + "house;girl 5;house;girl 5;ask all;slip 0 0 1;", 2, "enough()");
        // Two of the first house who are sure, one of the second: one of each is enough.
        due(BARE + "house;girl 5;girl 5;house;girl 5;girl 5;house;boy 5;ask all;slip 0 0 1;slip 1 0 2;slip 2 0 3;", 3,
            "enough()");
        due(BARE + "house;girl 5;girl 5;house;girl 5;girl 5;house;boy 5;ask all;slip 0 0 1;slip 1 0 2;", 3, "enough()");
        due(BARE + "house;girl 5;girl 5;house;girl 5;girl 5;house;boy 5;ask all;slip 0 0 1;", -1, "enough()");
        due(FULL, 5, "enough()");
        says("56", "-2: there is no TOWN.");
        refusesWithoutTown(-2, "enough()");
    }

    private void clash() {
        says("62", "CLASH: pairs of SCHOLARS of one HOUSE and of one SORT (girls, boys), both half or both whole, who give "
            + "unlike ANSWERS to a QUESTION.");
        String girls = BARE + "house;girl 5;girl 6;girl 7;girl 7;house;girl 8;ask all older;ask all;";
        // Answers 6, 4, 0, 0: all pairs but one.
        due(girls, 5, "clash(0)");
        due(girls, 0, "clash(1)");
        due(girls + "slip 0 1 1;", 3, "clash(1)");
        due(girls.replace("girl 6", "boy 6"), 2, "clash(0)");
        due(girls.replace("girl 6", "girl 6 half"), 2, "clash(0)");
        due(girls.replace("girl 6", "girl 6 away"), 2, "clash(0)");
        due(girls.replace("girl 6", "girl 6 dead"), 2, "clash(0)");
        due(BARE + "house;girl 5 half;girl 6 half;ask all older;", 1, "clash(0)");
        due(BARE + "house;boy 5;boy 6;house;boy 5 half;boy 6;ask all older;", 1, "clash(0)");
        due(BARE + "house;" + "girl 5;".repeat(6) + "ask all;slip 0 0 1;slip 1 0 2;slip 2 0 3;slip 3 0 4;slip 4 0 5;", 15,
            "clash(0)");
        due(NOBODY, 0, "clash(0)");
        says("62", "-2: there is none such.");
        refuses(TOWN, -2, "clash(3)", "clash(-1)", "clash(low)", "clash(high)");
        refuses(FULL, -2, "clash(6)");
        refuses(BARE, -2, "clash(0)");
        refusesWithoutTown(-2, "clash(0)", "clash(5)");
    }
}
