/** Marriages, heirs, beds, the census and twins: term VI and promises 40 to 51. */
final class KinBoundaries extends Sentences {
    /* Girls 16, 18 who is away | boys 17 half, 20, girl 15 | boy 16, girl 30, boy 18 dead | none. */
    private static final String GROWN = BARE
        + "house; girl 16; girl 18 away;"
        + "house; boy 17 half; boy 20; girl 15;"
        + "house; boy 16; girl 30; boy 18 dead;"
        + "house;";

    KinBoundaries(Document document, Check check) {
        super(document, check);
    }

    void run() {
        whoMarries();
        mostOfATown();
        heirs();
        bedsOfAHouse();
        censusOfAHouse();
        marriages();
        between();
        suits();
        sought();
        heir();
        place();
        quarrel();
        beds();
        squeeze();
        census();
        off();
        twins();
        endSentence();
    }

    private void whoMarries() {
        says("VI", "MARRIAGES: of a HOUSE to another one: girls who are not dead, of 16 or more, of the one and boys likewise "
            + "of the other are MATCHED, each once; no more than so many years (GAP) lie between two.");
        due(BARE + "house;girl 16;house;boy 16;", 1, "marriages(0)", "marriages(99)");
        due(BARE + "house;girl 15;house;boy 16;", 0, "marriages(99)");
        due(BARE + "house;girl 16;house;boy 15;", 0, "marriages(99)");
        due(BARE + "house;girl 16 dead;house;boy 16;", 0, "marriages(99)");
        due(BARE + "house;girl 16;house;boy 16 dead;", 0, "marriages(99)");
        due(BARE + "house;girl 16 half away;house;boy 16 away;", 1, "marriages(0)");
        due(BARE + "house;girl 16;house;girl 16;", 0, "marriages(99)");
        due(BARE + "house;boy 16;house;boy 16;", 0, "marriages(99)");
        due(BARE + "house;girl 16;house;boy 16;boy 16;", 1, "marriages(99)");
        due(BARE + "house;girl 16;girl 16;house;boy 16;", 1, "marriages(99)");
        for (String town : new String[] {"house;girl 16;house;boy 20;", "house;girl 20;house;boy 16;"}) {
            due(BARE + town, 0, "marriages(3)");
            due(BARE + town, 1, "marriages(4)", "marriages(5)");
        }
        SisterCount x = Check.of(BARE + "house;girl 15;house;boy 15;");
        due(x, 0, "marriages(0)");
        x.years(1);
        due(x, 1, "marriages(0)");
        x.years(30);
        x.years(30);
        due(x, 1, "marriages(0)");
    }

    private void mostOfATown() {
        says("VI", "The most that can be in a TOWN, none of one HOUSE to one of the same.");
        due(BARE + "house;girl 16;boy 16;", 0, "marriages(99)");
        due(BARE + "house;girl 16;boy 16;house;girl 16;boy 16;", 2, "marriages(99)");
        due(BARE + "house;girl 16;boy 16;house;girl 16;", 1, "marriages(99)");
        // Whoever takes the first that comes leaves another without: 18 must leave 18 to 16.
        due(BARE + "house;girl 18;girl 16;house;boy 18;boy 20;", 2, "marriages(2)");
        due(BARE + "house;girl 16;girl 18;girl 20;house;boy 18;boy 20;boy 22;", 3, "marriages(2)");
        due(BARE + "house;girl 20;girl 18;girl 16;house;boy 18;boy 20;boy 22;", 3, "marriages(2)");
        due(BARE + "house;boy 16;house;girl 16;", 1, "marriages(0)");
        inEachOrder("", 16, 18, 20, 22);
        String six = BARE + "house;" + "girl 20;".repeat(6) + "house;" + "boy 20;".repeat(6);
        due(six, 6, "marriages(0)");
        due(six + "house;girl 20;house;boy 20;", 7, "marriages(0)");
        String ten = BARE + "house;girl 16;boy 16;".repeat(8) + "girl 16;boy 16;girl 16;boy 16;";
        due(ten, 10, "marriages(0)");
    }

    /** Girls of four ages for boys two years older, who suit in just one way, told in each order. */
    private void inEachOrder(String told, int... ages) {
        if (ages.length == 0) {
            due(BARE + "house;" + told + "house;boy 18;boy 20;boy 22;boy 24;", 4, "marriages(2)");
            due(BARE + "house;boy 24;boy 20;boy 18;boy 22;house;" + told, 4, "marriages(2)");
            due(BARE + "house;boy 22;house;boy 18;house;" + told + "house;boy 20;house;boy 24;", 4, "marriages(2)");
            due(BARE + "house;" + told + "house;boy 18;boy 20;boy 22;boy 25;", 3, "marriages(2)");
        }
        for (int i = 0; i < ages.length; i++) {
            int[] rest = new int[ages.length - 1];
            System.arraycopy(ages, 0, rest, 0, i);
            System.arraycopy(ages, i + 1, rest, i, rest.length - i);
            inEachOrder(told + "girl " + ages[i] + ";", rest);
        }
    }

    private void order(String town, int law, int... heirs) {
        for (int i = 0; i < heirs.length; i++) {
            due(town, heirs[i], "heir(0, " + law + ", " + i + ")");
            due(town, i, "place(" + heirs[i] + ", " + law + ")");
        }
        due(town, -1, "heir(0, " + law + ", " + heirs.length + ")");
    }

    private void heirs() {
        says("VI", "HEIRS: a HOUSE's CHILDREN who are not dead by LAW 0: boys ahead of girls, each by age, the oldest first, of "
            + "one age the lesser number; 1: all by age so; 2: the youngest first, of one age the greater number; half "
            + "ones behind all whole ones.");
        String mixed = BARE + "house;girl 9;boy 7;girl 9;boy 7;boy 30 dead;boy 8 away;";
        order(mixed, 0, 5, 1, 3, 0, 2);
        order(mixed, 1, 0, 2, 5, 1, 3);
        order(mixed, 2, 3, 1, 5, 2, 0);
        String halves = BARE + "house;boy 9 half;girl 5;boy 3;girl 9 half;girl 7;boy 9 half;";
        order(halves, 0, 2, 4, 1, 0, 5, 3);
        order(halves, 1, 4, 1, 2, 0, 3, 5);
        order(halves, 2, 2, 1, 4, 5, 3, 0);
        String dead = BARE + "house;boy 3 dead;girl 3 dead;";
        order(dead, 0);
        order(dead, 2);
    }

    private void bedsOfAHouse() {
        says("VI", "BEDS: CHILDREN of a HOUSE who are not dead, not away sleep two in a bed, girls with girls, boys with boys, "
            + "if no more than so many years lie between them: the fewest beds.");
        due(BARE + "house;girl 5;girl 5;girl 5 dead;girl 5 away;", 1, "beds(0, 0)");
        due(BARE + "house;girl 5;boy 5;", 2, "beds(0, 99)");
        due(BARE + "house;girl 5;girl 5;girl 5;", 2, "beds(0, 99)");
        due(BARE + "house;girl 5;girl 8;", 2, "beds(0, 2)");
        due(BARE + "house;girl 5;girl 8;", 1, "beds(0, 3)");
        due(BARE + "house;girl 30;girl 0;", 2, "beds(0, 29)");
        due(BARE + "house;girl 30;girl 0;", 1, "beds(0, 30)");
        // The middle two could share, but then the outer two lie alone.
        due(BARE + "house;girl 4;girl 1;girl 6;girl 9;", 2, "beds(0, 3)");
        due(BARE + "house;girl 4;girl 1;girl 6;girl 9;", 3, "beds(0, 2)");
        due(BARE + "house;" + "boy 5;".repeat(6), 3, "beds(0, 0)");
        due(BARE + "house;boy 1;boy 2;boy 3;girl 1;girl 2;girl 3;", 4, "beds(0, 1)");
        due(BARE + "house;boy 1 dead;girl 1 away;", 0, "beds(0, 0)");
        SisterCount x = Check.of(BARE + "house;girl 30;girl 30;");
        x.years(30);
        x.years(30);
        x.years(9);
        due(x, 1, "beds(0, 0)");
    }

    private void censusOfAHouse() {
        says("VI", "CENSUS: how a clerk would count a SORT, who takes each TRUTH as it is: by each HOUSE seen the greatest of "
            + "what its SCHOLARS' TRUTHS tell (with themselves, by 2, cut).");
        // Only who is at school tells; dead ones are told of; a half one tells of half as many.
        due(BARE + "house;girl 5;girl 3 dead;girl 3 away;house;girl 4;", 3, "census(0)", "census(2)");
        due(BARE + "house;girl 5 half;girl 3;", 1, "census(0)");
        due(BARE + "house;girl 5 half;girl 3;girl 3;", 2, "census(0)");
        due(BARE + "house;girl 5 half;girl 6;girl 3;girl 3;", 3, "census(0)");
        due(BARE + "house;boy 5;girl 3 half;house;boy 5;girl 3 half;", 0, "census(0)");
        due(BARE + "house;boy 5;girl 3 half;house;boy 5;girl 3 half;", 2, "census(1)", "census(2)");
        due(BARE + "house;girl 5;ask all;slip 0 0 20;", 1, "census(0)");
    }

    private void marriages() {
        says("40", "MARRIAGES (VI): the most that can be in the TOWN with a GAP (0 .. 99).");
        due(GROWN, 1, "marriages(0)");
        due(GROWN, 2, "marriages(1)", "marriages(9)");
        due(GROWN, 3, "marriages(10)", "marriages(99)");
        due(BARE, 0, "marriages(0)", "marriages(99)");
        says("40", "-2: there is no such GAP, no TOWN.");
        refuses(GROWN, -2, "marriages(100)", "marriages(-1)", "marriages(low)", "marriages(high)");
        refusesWithoutTown(-2, "marriages(0)", "marriages(99)");
    }

    private void between() {
        says("41", "The most between two HOUSES (girls of either).");
        String two = BARE + "house;girl 16;girl 20;boy 16;house;boy 16;girl 17;house;boy 20;house;";
        due(two, 2, "between(0, 1, 99)", "between(1, 0, 99)", "between(0, 1, 1)");
        due(two, 1, "between(0, 1, 0)", "between(0, 2, 0)", "between(2, 0, 99)");
        due(two, 0, "between(1, 2, 2)", "between(0, 3, 99)", "between(3, 0, 0)");
        due(two, 1, "between(1, 2, 3)");
        says("41", "-2: there are none such, one twice.");
        refuses(GROWN, -2, "between(0, 4, 1)", "between(4, 0, 1)", "between(-1, 0, 1)", "between(0, -1, 1)",
            "between(low, high, 1)", "between(0, 1, 100)", "between(0, 1, -1)", "between(0, 1, low)",
            "between(0, 1, high)", "between(0, 0, 1)", "between(3, 3, 1)", "between(4, 4, 1)");
        refuses(FULL, -2, "between(7, 8, 1)");
        due(FULL, 0, "between(6, 7, 99)");
        refusesWithoutTown(-2, "between(0, 1, 1)");
    }

    private void suits() {
        plain("42", "How many CHILDREN a CHILD could be MATCHED with at all.");
        says("42", "-2: there are none such.");
        refuses(GROWN, -2, "suits(8, 1)", "suits(-1, 1)", "suits(low, 1)", "suits(high, 1)", "suits(0, 100)", "suits(0, -1)",
            "suits(0, low)", "suits(0, high)");
        refuses(FULL, -2, "suits(20, 1)");
        due(FULL, 0, "suits(19, 1)");
        due(GROWN, 3, "suits(0, 99)", "suits(1, 4)");
        due(GROWN, 1, "suits(0, 0)");
        // Too young; dead; a boy of her own house does not suit.
        due(GROWN, 0, "suits(4, 99)", "suits(7, 99)");
        due(GROWN, 2, "suits(6, 99)", "suits(5, 2)");
        refusesWithoutTown(-2, "suits(0, 1)", "suits(19, 99)");
    }

    private void sought() {
        says("43", "Whether a CHILD is MATCHED in each way that has most: 1, if without it there are fewer; else 0.");
        String town = BARE + "house;girl 16;girl 16;house;boy 16;house;boy 30;house;girl 15;boy 16 dead;";
        due(town, 1, "sought(2, 0)");
        due(town, 0, "sought(0, 0)", "sought(1, 0)", "sought(3, 0)", "sought(4, 99)", "sought(5, 99)");
        due(town, 1, "sought(0, 99)", "sought(1, 99)", "sought(2, 99)", "sought(3, 99)");
        due(BARE + "house;girl 16;", 0, "sought(0, 99)");
        says("43", "-2 likewise.");
        refuses(GROWN, -2, "sought(8, 1)", "sought(-1, 1)", "sought(low, 1)", "sought(high, 1)", "sought(0, 100)",
            "sought(0, -1)", "sought(0, low)", "sought(0, high)");
        refuses(FULL, -2, "sought(20, 1)");
        refusesWithoutTown(-2, "sought(0, 1)", "sought(19, 99)");
    }

    private void heir() {
        plain("44", "HEIR i (from 0) of a HOUSE by a LAW (0 .. 2).");
        says("44", "NONE: there are not so many; -2: there are none such.");
        for (int law = 0; law < 3; law++) {
            due(TOWN, -1, "heir(0, " + law + ", 3)", "heir(0, " + law + ", 6)", "heir(0, " + law + ", high)",
                "heir(3, " + law + ", 0)");
        }
        due(TOWN, 1, "heir(0, 0, 2)");
        refuses(TOWN, -2, "heir(4, 0, 0)", "heir(-1, 0, 0)", "heir(low, 0, 0)", "heir(high, 0, 0)", "heir(0, 3, 0)",
            "heir(0, -1, 0)", "heir(0, low, 0)", "heir(0, high, 0)", "heir(0, 0, -1)", "heir(0, 0, low)", "heir(3, 3, 0)");
        refuses(FULL, -2, "heir(8, 0, 0)");
        due(FULL, 11, "heir(1, 0, 0)");
        due(FULL, 6, "heir(1, 0, 5)");
        due(FULL, -1, "heir(1, 0, 6)", "heir(7, 2, 0)");
        refusesWithoutTown(-2, "heir(0, 0, 0)", "heir(7, 2, 0)");
    }

    private void place() {
        plain("45", "The place of a CHILD among HEIRS of its HOUSE.");
        says("45", "NONE: it is dead; -2: there are none such.");
        due(TOWN, -1, "place(3, 0)", "place(3, 1)", "place(3, 2)");
        due(TOWN, 0, "place(2, 0)", "place(0, 1)", "place(5, 2)");
        due(TOWN, 2, "place(1, 0)", "place(1, 1)", "place(1, 2)");
        refuses(TOWN, -2, "place(9, 0)", "place(-1, 0)", "place(low, 0)", "place(high, 0)", "place(0, 3)", "place(0, -1)",
            "place(3, 3)", "place(3, low)");
        refuses(FULL, -2, "place(20, 0)");
        due(FULL, 0, "place(19, 0)");
        due(FULL, 5, "place(6, 1)");
        refusesWithoutTown(-2, "place(0, 0)", "place(19, 2)");
    }

    private void quarrel() {
        says("46", "HOUSES whose first HEIRS by two LAWS are unlike, as bits.");
        String town = BARE + "house;girl 9;boy 7;house;boy 9;girl 7;house;girl 5;house;house;girl 5 dead;boy 6 dead;"
            + "house;boy 5;girl 5;";
        due(town, 1, "quarrel(0, 1)", "quarrel(1, 0)");
        due(town, 2 + 32, "quarrel(0, 2)", "quarrel(2, 0)");
        due(town, 1 + 2 + 32, "quarrel(1, 2)", "quarrel(2, 1)");
        due(town, 0, "quarrel(0, 0)", "quarrel(1, 1)", "quarrel(2, 2)");
        due(BARE, 0, "quarrel(0, 1)");
        due(BARE + "house;girl 9;boy 7;".repeat(8), 255, "quarrel(0, 1)");
        says("46", "-2: there are none such, no TOWN.");
        refuses(TOWN, -2, "quarrel(3, 0)", "quarrel(0, 3)", "quarrel(-1, 0)", "quarrel(0, -1)", "quarrel(low, 0)",
            "quarrel(0, high)", "quarrel(3, 3)");
        refuses(BARE, -2, "quarrel(0, 3)");
        refusesWithoutTown(-2, "quarrel(0, 1)", "quarrel(2, 2)");
    }

    private void beds() {
        says("47", "BEDS of a HOUSE, with so many years (0 .. 99) between.");
        due(TOWN, 3, "beds(0, 0)", "beds(0, 4)");
        due(TOWN, 2, "beds(0, 5)", "beds(0, 99)");
        due(TOWN, 0, "beds(3, 0)", "beds(3, 99)");
        says("47", "-2: there are none such.");
        refuses(TOWN, -2, "beds(4, 0)", "beds(-1, 0)", "beds(low, 0)", "beds(high, 0)", "beds(0, 100)", "beds(0, -1)",
            "beds(0, low)", "beds(0, high)", "beds(3, 100)");
        refuses(FULL, -2, "beds(8, 0)");
        due(FULL, 0, "beds(7, 0)");
        refusesWithoutTown(-2, "beds(0, 0)", "beds(7, 99)");
    }

    private void squeeze() {
        says("48", "The least such years by which a HOUSE has no more than n beds; NONE: by none.");
        due(TOWN, 0, "squeeze(0, 3)", "squeeze(0, 4)", "squeeze(0, high)", "squeeze(3, 0)");
        due(TOWN, 5, "squeeze(0, 2)");
        due(TOWN, -1, "squeeze(0, 1)", "squeeze(0, 0)");
        due(BARE + "house;girl 0;girl 30;", 30, "squeeze(0, 1)");
        due(BARE + "house;girl 0;girl 30;", 0, "squeeze(0, 2)");
        due(BARE + "house;girl 0;girl 30;", -1, "squeeze(0, 0)");
        due(BARE + "house;girl 0 dead;girl 30 away;", 0, "squeeze(0, 0)");
        says("48", "-2: there are none such, n is below 0.");
        refuses(TOWN, -2, "squeeze(4, 0)", "squeeze(-1, 0)", "squeeze(low, 0)", "squeeze(high, 0)", "squeeze(0, -1)",
            "squeeze(0, low)", "squeeze(3, -1)");
        refuses(FULL, -2, "squeeze(8, 0)");
        due(FULL, 0, "squeeze(7, 0)");
        refusesWithoutTown(-2, "squeeze(0, 0)", "squeeze(7, 6)");
    }

    private void census() {
        plain("49", "CENSUS of a SORT.");
        says("49", "-2: there is no such SORT, no TOWN.");
        refuses(TOWN, -2, "census(3)", "census(-1)", "census(low)", "census(high)");
        due(BARE, 0, "census(0)", "census(1)", "census(2)");
        due(BARE + "house;girl 4;", 0, "census(0)", "census(2)");
        refusesWithoutTown(-2, "census(0)", "census(2)");
    }

    private void off() {
        says("50", "The HOUSE of which CENSUS tells farthest from what is (too many or too few), the first of several; NONE: "
            + "all it sees are right.");
        String town = BARE + "house;girl 4;girl 4;girl 4;house;girl 5 half;girl 3;house;girl 5;girl 3;"
            + "house;girl 5 half;girl 3;girl 3;girl 3;house;boy 6;girl 2 half;girl 2 half;girl 2 half;";
        due(town, 3, "off(0)");
        due(town, -1, "off(1)");
        due(town, 3, "off(2)");
        due(BARE + "house;girl 5;house;girl 5 half;girl 3;house;girl 5 half;girl 3;", 1, "off(0)", "off(2)");
        due(BARE + "house;girl 4 half;girl 3;house;girl 5;", -1, "off(0)", "off(1)", "off(2)");
        due(BARE, -1, "off(0)");
        due(BARE + "house;girl 5 half;girl 3;house;girl 5 half;girl 3;", 0, "off(0)", "off(2)");
        says("50", "-2 likewise.");
        refuses(TOWN, -2, "off(3)", "off(-1)", "off(low)", "off(high)");
        refusesWithoutTown(-2, "off(0)", "off(2)");
    }

    private void twins() {
        says("51", "How many twins (of one age, not dead, of one HOUSE) a CHILD has.");
        String town = BARE + "house;girl 5;boy 5 half;girl 5 dead;girl 5 away;girl 6;house;girl 5;house;" + "boy 7;".repeat(6);
        due(town, 2, "twins(0)", "twins(1)", "twins(3)");
        due(town, 0, "twins(4)", "twins(5)");
        due(town, 5, "twins(6)", "twins(11)");
        says("51", "-2: there is none such.");
        refuses(TOWN, -2, "twins(9)", "twins(-1)", "twins(low)", "twins(high)");
        refuses(FULL, -2, "twins(20)");
        due(FULL, 0, "twins(19)");
        refusesWithoutTown(-2, "twins(0)", "twins(19)");
    }
}
