import java.math.BigInteger;

/** Tales by some of the scholars, bread and schools drawn: term VII, promises 39 and 63 to 68. */
final class TaleBoundaries extends Sentences {
    private static final int NOTHING = -1_000_000;

    TaleBoundaries(Document document, Check check) {
        super(document, check);
    }

    void run() {
        draws();
        drawnSchools();
        bread();
        less();
        panel();
        just();
        changed();
        drawn();
        seen();
        endSentence();
    }

    /** Draws from a seed by numbers without a bound: draw k, from 0. */
    private static int draw(long seed, int k) {
        BigInteger x = BigInteger.valueOf(seed);
        for (int i = 0; i <= k; i++) {
            x = x.multiply(BigInteger.valueOf(1103515245)).add(BigInteger.valueOf(12345))
                .mod(BigInteger.valueOf(2147483648L));
        }
        return x.divide(BigInteger.valueOf(65536)).mod(BigInteger.valueOf(100)).intValueExact();
    }

    /** One scholar in each of the eight houses. */
    private static final String EIGHT = BARE + "house;girl 5;".repeat(8);

    private static int comers(long seed, int odds, int n) {
        int bits = 0;
        for (int k = 0; k < n; k++) {
            bits |= draw(seed, k) < odds ? 1 << k : 0;
        }
        return bits;
    }

    private void draws() {
        says("VII", "DRAWS: x becomes (1103515245 x + 12345) modulo 2,147,483,648 (at first it is the seed); a draw: x / 65536, "
            + "cut, modulo 100.");
        long[] seeds = {0, 1, 2, 65535, 65536, 1_000_000_000, 1_999_999_999, 2_000_000_000};
        SisterCount x = Check.of(EIGHT);
        for (long seed : seeds) {
            for (int odds : new int[] {0, 1, 17, 50, 83, 99, 100}) {
                due(x, comers(seed, odds, 8), "drawn(" + seed + ", " + odds + ", 1)");
            }
        }
        // By hand: from 0 the first x is 12345, the draw 0; the next is 1406932606, the draw 21468 modulo 100.
        holds("draws from 0", draw(0, 0) == 0 && draw(0, 1) == 68);
        due(x, 1, "drawn(0, 1, 0)");
        SisterCount twenty = Check.of(TWENTY);
        due(twenty, Integer.bitCount(comers(2_000_000_000, 50, 20)), "drawn(2000000000, 50, 0)");
        due(twenty, 5 * Integer.bitCount(comers(7, 50, 20)), "drawn(7, 50, 2)");
    }

    private void drawnSchools() {
        says("VII", "A school drawn: CHILD by CHILD of those that are SCHOLARS a draw: it comes, if it is below odds.");
        // Others between the scholars take no draw: the eighth house is seen by the eighth draw.
        String others = BARE + "house;girl 4;girl 5;boy 7 dead;".repeat(4) + "house;girl 5;boy 7 away;".repeat(4);
        for (int seed = 0; seed < 20; seed++) {
            due(others, comers(seed, 50, 8), "drawn(" + seed + ", 50, 1)");
        }
        for (int k = 0; k < 8; k++) {
            int odds = draw(42, k);
            due(EIGHT, comers(42, odds, 8), "drawn(42, " + odds + ", 1)");
            holds("it does not come at its own draw", (comers(42, odds, 8) >> k & 1) == 0);
            due(EIGHT, comers(42, odds + 1, 8), "drawn(42, " + (odds + 1) + ", 1)");
            holds("it comes above it", (comers(42, odds + 1, 8) >> k & 1) == 1);
        }
    }

    private void bread() {
        says("39", "BREAD: loaves for every mother: HOUSES by the TALE: TALE of all, by the greatest number of CHILDREN of a "
            + "HOUSE, rounded up (what 0), HOUSES with CHILDREN (1), how many loaves are too many (2; below 0: too few).");
        loaves(BARE + "house;girl 5;girl 5;girl 5;", 3, 1);
        loaves(BARE + "house;girl 5;girl 5;girl 4;", 2, 1);
        loaves(BARE + "house;girl 5;girl 4;girl 4;house;girl 5;", 2, 2);
        loaves(BARE + "house;girl 5;girl 4;girl 4;house;girl 5;house;boy 1;house;", 2, 3);
        loaves(BARE + "house;girl 4;house;girl 4;girl 5 dead;house;", 0, 2);
        loaves(BARE + "house;girl 5;house;" + "boy 1 dead;".repeat(6), 1, 2);
        loaves(BARE + "house;boy 5;boy 5;girl 5;house;boy 5;", 4, 2);
        loaves(TWENTY, 20, 4);
        loaves(BARE + "house;boy 1;".repeat(8), 0, 8);
        says("39", "-2: there is no such what, no TOWN; -5: there are no CHILDREN.");
        refuses(TOWN, -2, "bread(3)", "bread(-1)", "bread(low)", "bread(high)");
        refuses(BARE, -5, "bread(0)", "bread(1)", "bread(2)");
        refuses(BARE + "house;house;", -5, "bread(0)", "bread(1)", "bread(2)");
        refuses(BARE, -2, "bread(3)", "bread(-1)");
        refusesWithoutTown(-2, "bread(0)", "bread(1)", "bread(2)");
    }

    private void loaves(String town, int loaves, int mothers) {
        due(town, loaves, "bread(0)");
        due(town, mothers, "bread(1)");
        due(town, loaves - mothers, "bread(2)");
    }

    private void less() {
        says("63", "By how much less the TALE of a SORT is, if a SCHOLAR is not asked.");
        String halves = BARE + "house;girl 5 half;boy 3;";
        due(halves, 0, "less(0, 1)");
        due(halves, 1, "less(0, 0)", "less(0, 2)");
        due(halves + "house;girl 5 half;boy 3;", 1, "less(0, 1)", "less(2, 1)", "less(0, 0)");
        due(halves + "house;girl 5 half;boy 3;", 2, "less(0, 2)", "less(2, 2)");
        due(TWENTY, 5, "less(0, 0)", "less(19, 2)");
        due(TWENTY, 0, "less(19, 1)");
        SisterCount x = Check.of(TWENTY);
        due(x, 5, "less(19, 0)");
        due(x, 100, "tale(0)");
        says("63", "-2: there are none such, no SCHOLAR.");
        refuses(TOWN, -2, "less(9, 0)", "less(-1, 0)", "less(low, 0)", "less(high, 0)", "less(0, 3)", "less(0, -1)",
            "less(0, low)", "less(0, high)", "less(3, 0)", "less(5, 1)", "less(6, 2)", "less(7, 0)", "less(8, 0)");
        refuses(FULL, -2, "less(20, 0)");
        refusesWithoutTown(-2, "less(0, 0)", "less(19, 2)");
    }

    private void panel() {
        says("64", "PANEL: of all sets of n (0 .. 20) SCHOLARS one whose TALE of a SORT lies nearest to what THERE ARE: how far "
            + "(what 0), which (1: as bits, the least set of these).");
        due(TWENTY, 20, "panel(0, 0, 0)");
        due(TWENTY, 0, "panel(0, 0, 1)", "panel(0, 1, 0)", "panel(4, 0, 0)");
        due(TWENTY, 15, "panel(4, 0, 1)", "panel(1, 0, 0)", "panel(4, 1, 1)");
        due(TWENTY, 80, "panel(20, 0, 0)");
        due(TWENTY, (1 << 20) - 1, "panel(20, 0, 1)", "panel(20, 2, 1)");
        // Voices 3, 2, 4 for girls, of whom there are 6; sums are cut at the end: 7 by 2 is 3.
        String town = BARE + "house;girl 4;house;girl 5 half;girl 4;boy 4;house;girl 5;boy 1;boy 1;house;girl 5;girl 1;";
        due(town, 4, "panel(1, 0, 0)");
        due(town, 1 << 7, "panel(1, 0, 1)");
        due(town, 3, "panel(2, 0, 0)");
        due(town, 1 << 1 | 1 << 7, "panel(2, 0, 1)");
        due(town, 2, "panel(3, 0, 0)");
        // As far below as above, 2 and 4 of 3: the least set, be it the one or the other.
        String below = BARE + "house;boy 5;house;girl 5;girl 6;house;girl 1;";
        String above = BARE + "house;girl 5;girl 6;house;boy 5;house;girl 1;";
        due(below, 1, "panel(2, 0, 0)");
        due(below, 1 | 2, "panel(2, 0, 1)");
        due(above, 1, "panel(2, 0, 0)");
        due(above, 1 | 2, "panel(2, 0, 1)");
        String both = BARE + "house;girl 5;boy 1;boy 1;boy 1;house;girl 5;girl 5;boy 2;house;girl 5;boy 2;boy 2;boy 2;";
        // Brothers: 3 by 0, 1 by 4, 1 by 5, 3 by 7; there are 7. Of three: 3 + 1 + 3 or less: 7 is met.
        due(both, 0, "panel(3, 1, 0)");
        due(both, 1 | 1 << 4 | 1 << 7, "panel(3, 1, 1)");
        due(both, 1, "panel(4, 1, 0)", "panel(2, 1, 0)");
        due(both, 1 | 1 << 7, "panel(2, 1, 1)");
        // Call by call on one object, of sorts and sizes by turns, and when nobody is at school.
        SisterCount x = Check.of(both);
        due(x, 0, "panel(3, 1, 0)");
        due(x, 2, "just(0)");
        due(x, 1 | 1 << 4 | 1 << 7, "panel(3, 1, 1)");
        due(x, 4, "panel(0, 0, 0)");
        due(x, 1, "panel(4, 1, 0)");
        x.years(9);
        due(x, -1, "panel(1, 1, 0)");
        due(x, 7, "panel(0, 1, 0)");
        says("64", "NONE: there are not so many SCHOLARS; -2: there are none such, no TOWN.");
        refuses(TOWN, -1, "panel(5, 0, 0)", "panel(5, 2, 1)", "panel(20, 0, 0)", "panel(20, 0, 1)");
        due(TOWN, 23, "panel(4, 0, 1)");
        refuses(BARE, -1, "panel(1, 0, 0)");
        due(BARE, 0, "panel(0, 0, 0)", "panel(0, 0, 1)");
        refuses(TOWN, -2, "panel(21, 0, 0)", "panel(-1, 0, 0)", "panel(low, 0, 0)", "panel(high, 0, 0)", "panel(1, 3, 0)",
            "panel(1, -1, 0)", "panel(1, low, 0)", "panel(1, high, 0)", "panel(1, 0, 2)", "panel(1, 0, -1)",
            "panel(1, 0, low)", "panel(1, 0, high)", "panel(5, 3, 0)", "panel(5, 0, 2)");
        refuses(TWENTY, -2, "panel(21, 0, 0)");
        refusesWithoutTown(-2, "panel(0, 0, 0)", "panel(20, 2, 1)");
    }

    private void just() {
        says("65", "The fewest SCHOLARS by a set of whom the TALE of a SORT is just what THERE ARE; NONE: by none.");
        due(TWENTY, 4, "just(0)", "just(2)");
        due(TWENTY, 0, "just(1)");
        due(BARE, 0, "just(0)", "just(1)", "just(2)");
        due(BARE + "house;girl 5;", 1, "just(0)", "just(2)");
        due(BARE + "house;girl 4;", -1, "just(0)", "just(2)");
        due(BARE + "house;girl 5;house;girl 4;", -1, "just(0)");
        due(BARE + "house;girl 5;girl 4;girl 4;house;boy 4;", -1, "just(2)");
        due(BARE + "house;girl 5;girl 6;house;girl 5;girl 6;", 2, "just(0)");
        due("town school 0 to 30;" + "house;girl 5;".repeat(8), 8, "just(0)");
        // Voices 7, 3, 3: all together 13, by 2, cut, is 6, and so many there are.
        due(BARE + "house;girl 5;girl 4;girl 4;girl 4 half;house;girl 5 half;girl 4;boy 5;", 3, "just(0)");
        says("65", "-2: there is no such SORT, no TOWN.");
        refuses(TOWN, -2, "just(3)", "just(-1)", "just(low)", "just(high)");
        refusesWithoutTown(-2, "just(0)", "just(2)");
    }

    private void changed() {
        says("66", "By how much more the TALE of a SORT is (below 0: less), if two CHILDREN had changed HOUSES.");
        String town = BARE + "house;girl 5;girl 6;boy 3;house;boy 3;girl 3;house;girl 9;";
        // The girl of 3 would come to where two tell of her, for the boy whom nobody there tells of.
        due(town, 2, "changed(2, 4, 0)", "changed(4, 2, 0)");
        due(town, -2, "changed(2, 4, 1)");
        due(town, 0, "changed(2, 4, 2)", "changed(2, 3, 0)", "changed(2, 3, 2)");
        // The girl of 6 would be where nobody else tells; the one of 9 with another: 2 + 1 as before.
        due(town, 0, "changed(1, 5, 0)");
        due(town, -1, "changed(1, 4, 0)");
        SisterCount x = Check.of(town);
        due(x, 2, "changed(2, 4, 0)");
        due(x, 5, "tale(0)");
        due(x, 0, "child(2, 0)");
        due(x, 1, "child(4, 0)");
        says("66", "NOTHING (-1,000,000): there are none such, of one HOUSE.");
        refuses(town, NOTHING, "changed(0, 6, 0)", "changed(6, 0, 0)", "changed(-1, 0, 0)", "changed(0, -1, 0)",
            "changed(low, 0, 0)", "changed(0, high, 0)", "changed(0, 3, 3)", "changed(0, 3, -1)", "changed(0, 3, low)",
            "changed(0, 3, high)", "changed(0, 0, 0)", "changed(0, 1, 0)", "changed(3, 4, 1)", "changed(6, 6, 0)");
        refuses(FULL, NOTHING, "changed(0, 20, 0)", "changed(20, 0, 0)");
        refusesWithoutTown(NOTHING, "changed(0, 6, 0)", "changed(0, 0, 0)", "changed(0, 19, 2)");
    }

    private void drawn() {
        says("67", "On a school drawn (VII) from a seed (0 .. 2,000,000,000) and odds (0 .. 100), what 0: how many come, 1: HOUSES "
            + "that are seen, as bits, 2: TALE of all by those who come.");
        for (String seed : new String[] {"0", "2000000000"}) {
            due(TWENTY, 20, "drawn(" + seed + ", 100, 0)");
            due(TWENTY, 15, "drawn(" + seed + ", 100, 1)");
            due(TWENTY, 100, "drawn(" + seed + ", 100, 2)");
            due(TWENTY, 0, "drawn(" + seed + ", 0, 0)", "drawn(" + seed + ", 0, 1)", "drawn(" + seed + ", 0, 2)");
            due(BARE, 0, "drawn(" + seed + ", 100, 0)", "drawn(" + seed + ", 100, 1)", "drawn(" + seed + ", 100, 2)");
        }
        due(BARE + "house;boy 5;girl 5;boy 3;house;boy 6;", 7, "drawn(0, 100, 2)");
        // A half one alone: 3 by 2, cut.
        due(BARE + "house;girl 5 half;boy 3;", 1, "drawn(0, 100, 2)");
        says("67", "-2: there are none such, no TOWN.");
        refuses(TOWN, -2, "drawn(-1, 50, 0)", "drawn(2000000001, 50, 0)", "drawn(low, 50, 0)", "drawn(high, 50, 0)",
            "drawn(0, -1, 0)", "drawn(0, 101, 0)", "drawn(0, low, 0)", "drawn(0, high, 0)", "drawn(0, 50, 3)",
            "drawn(0, 50, -1)", "drawn(0, 50, low)", "drawn(0, 50, high)");
        refusesWithoutTown(-2, "drawn(0, 50, 0)", "drawn(0, 50, 2)");
    }

    private void seen() {
        says("68", "Of n (1 .. 20) such from seeds, the seed and 1, .., in how many a HOUSE is seen.");
        for (long seed : new long[] {0, 5, 2_000_000_000}) {
            for (int n : new int[] {1, 2, 20}) {
                for (int house = 0; house < 8; house++) {
                    int due = 0;
                    for (int i = 0; i < n; i++) {
                        due += comers(seed + i, 50, 8) >> house & 1;
                    }
                    due(EIGHT, due, "seen(" + seed + ", " + n + ", 50, " + house + ")");
                }
            }
        }
        due(EIGHT, 20, "seen(2000000000, 20, 100, 7)");
        due(EIGHT, 0, "seen(2000000000, 20, 0, 7)");
        due(TOWN, 0, "seen(0, 20, 100, 2)", "seen(0, 20, 100, 3)");
        says("68", "-2 likewise, no such HOUSE.");
        refuses(TOWN, -2, "seen(-1, 1, 50, 0)", "seen(2000000001, 1, 50, 0)", "seen(low, 1, 50, 0)", "seen(high, 20, 50, 0)",
            "seen(0, 1, -1, 0)", "seen(0, 1, 101, 0)", "seen(0, 0, 50, 0)", "seen(0, 21, 50, 0)", "seen(0, -1, 50, 0)",
            "seen(0, low, 50, 0)", "seen(0, high, 50, 0)", "seen(0, 1, 50, 4)", "seen(0, 1, 50, -1)", "seen(0, 1, 50, low)",
            "seen(0, 1, 50, high)");
        refuses(FULL, -2, "seen(0, 1, 50, 8)");
        refuses(BARE, -2, "seen(0, 1, 50, 0)");
        refusesWithoutTown(-2, "seen(0, 1, 50, 0)", "seen(0, 20, 100, 7)");
    }
}
