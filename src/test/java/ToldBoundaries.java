import java.util.Arrays;

/** Rows of what unknown children told: term V and promises 28 to 35. */
final class ToldBoundaries extends Sentences {
    ToldBoundaries(Document document, Check check) {
        super(document, check);
    }

    void run() {
        told();
        joinings();
        likeHouses();
        noMoreThanThereAre();
        atMostTen();
        least();
        greatest();
        allJoinings();
        by();
        likely();
        joined();
        daughters();
        sorts();
        endSentence();
    }

    /** A town, and a row in slot 0. */
    private static SisterCount row(int width, long... numbers) {
        SisterCount x = Check.of(BARE);
        Check.putRow(x, 0, width, numbers);
        return x;
    }

    /** So many children alike. */
    private static SisterCount times(int n, long... three) {
        long[] numbers = new long[3 * n];
        for (int i = 0; i < numbers.length; i++) {
            numbers[i] = three[i % 3];
        }
        return row(0, numbers);
    }

    private static SisterCount twoGirlsOfTwo() {
        return row(0, 0, 1, 0, 0, 1, 0);
    }

    private void told() {
        says("V", "TOLD: a SLOT's row, three numbers each, of an unknown child: 0 a girl, 1 a boy; how many sisters, brothers "
            + "(0 .. 9 each) it has (all whole, all living, right).");
        due(row(0, 0, 0, 0), 1, "daughters(0, 0)");
        due(row(0, 1, 0, 0), 0, "daughters(0, 0)");
        due(row(0, 0, 9, 9), 10, "daughters(0, 0)");
        due(row(0, 1, 9, 9), 9, "daughters(0, 0)");
        for (int width = 0; width < 4; width++) {
            for (long[] three : new long[][] {{-1, 0, 0}, {2, 0, 0}, {0, -1, 0}, {0, 10, 0}, {0, 0, -1}, {0, 0, 10},
                {1, -1, 0}, {1, 10, 0}, {1, 0, -1}, {1, 0, 10}}) {
                for (String call : new String[] {"least(0)", "joinings(0)", "daughters(0, 1)"}) {
                    refuses(row(width, three), -2, call);
                    refuses(row(width, 0, 0, 0, three[0], three[1], three[2]), -2, call);
                    refuses(row(width, three[0], three[1], three[2], 0, 0, 0), -2, call);
                }
            }
        }
        for (int i = 0; i < 3; i++) {
            long[] numbers = new long[3];
            numbers[i] = 1L << 32;
            refuses(row(3, numbers), -2, "least(0)");
            due(row(2, numbers), 1, "least(0)");
        }
    }

    private void joinings() {
        says("V", "A JOINING: which of them are of one HOUSE:");
        // Three who can all be of one house: all in one, two and one in three ways, each alone.
        SisterCount x = times(3, 0, 2, 0);
        due(x, 5, "joinings(0)");
        due(x, 1, "by(0, 1)");
        due(x, 3, "by(0, 2)");
        due(x, 1, "by(0, 3)");
        due(x, 2, "joined(0, 0, 1)");
    }

    private void likeHouses() {
        says("V", "all of one tell of as many girls and boys;");
        due(row(0, 0, 1, 1, 1, 2, 0), 2, "joinings(0)");
        due(row(0, 0, 1, 1, 1, 1, 1), 1, "joinings(0)");
        due(row(0, 0, 0, 0, 1, 0, 0), 1, "joinings(0)");
        due(row(0, 0, 2, 1, 0, 2, 2), 1, "joinings(0)");
        due(row(0, 0, 2, 1, 0, 1, 1), 1, "joinings(0)");
        due(row(0, 0, 2, 1, 0, 2, 1), 2, "joinings(0)");
        // As many in all, but others: a girl with two brothers, a girl with two sisters.
        due(row(0, 0, 0, 2, 0, 2, 0), 1, "joinings(0)");
    }

    private void noMoreThanThereAre() {
        says("V", "no more girls, boys of one are TOLD than it has.");
        due(times(2, 0, 0, 0), 1, "joinings(0)");
        due(times(2, 0, 0, 5), 1, "joinings(0)");
        due(times(2, 1, 5, 0), 1, "joinings(0)");
        due(times(2, 0, 1, 0), 2, "joinings(0)");
        due(times(2, 1, 0, 1), 2, "joinings(0)");
        due(times(3, 0, 1, 0), 4, "joinings(0)");
        due(times(3, 1, 0, 1), 4, "joinings(0)");
        // A girl and a boy of one house with one of each are together or not; two such boys never are.
        due(row(0, 0, 0, 1, 1, 1, 0), 2, "joinings(0)");
        due(row(0, 0, 0, 1, 1, 1, 0, 1, 1, 0), 3, "joinings(0)");
        // Ten of a house of nine, ten of one of ten.
        due(times(10, 0, 8, 0), 115974, "joinings(0)");
        due(times(10, 0, 9, 0), 115975, "joinings(0)");
        due(times(10, 0, 8, 0), 2, "least(0)");
        due(times(10, 1, 0, 9), 1, "least(0)");
        due(times(10, 1, 0, 8), 2, "least(0)");
    }

    private void atMostTen() {
        says("V", "At most ten.");
        due(times(10, 0, 0, 0), 10, "least(0)");
        refuses(times(11, 0, 0, 0), -3, "least(0)");
        refuses(times(20, 0, 0, 0), -3, "least(0)");
    }

    private void least() {
        plain("28", "TOLD (V): the fewest HOUSES of which they can be.");
        says("28", "-2: there is no such SLOT, no TOWN, a number is not so (asked last), not three each; -6: it has nothing; "
            + "-3: more than ten.");
        refusesLike("least(%d)");
        due(row(0), 0, "least(0)");
        due(times(10, 0, 9, 9), 1, "least(0)");
        due(times(10, 0, 0, 0), 10, "least(0)");
    }

    /** What all calls about a row are refused for, in the order in which it is asked. */
    private void refusesLike(String call) {
        for (int slot : new int[] {4, -1, Integer.MIN_VALUE, Integer.MAX_VALUE}) {
            refuses(BARE, -2, String.format(call, slot));
        }
        for (int slot = 0; slot < 4; slot++) {
            refuses(BARE, -6, String.format(call, slot));
        }
        refusesWithoutTown(-2, String.format(call, 0), String.format(call, 1), String.format(call, 3));
        String asked = String.format(call, 0);
        for (int length : new int[] {1, 2, 4, 29, 31, 58}) {
            refuses(row(0, new long[length]), -2, asked);
        }
        for (int length : new int[] {33, 36, 60}) {
            refuses(row(0, new long[length]), -3, asked);
            // A number is asked last.
            refuses(row(0, Arrays.copyOf(new long[] {2}, length)), -3, asked);
        }
        refuses(row(0, 0, 1, 0, 0, 1, 10), -2, asked);
        refuses(row(0, 2, 1, 0, 0, 1, 0), -2, asked);
        refuses(row(0, 0, -1, 0, 0, 1, 0), -2, asked);
    }

    private void greatest() {
        says("29", "The most (each for itself).");
        due(row(0), 0, "greatest(0)");
        due(row(0, 0, 0, 0), 1, "greatest(0)");
        due(times(10, 0, 9, 9), 10, "greatest(0)");
        says("29", "-2, -6, -3 likewise.");
        refusesLike("greatest(%d)");
    }

    private void allJoinings() {
        plain("30", "How many JOININGS there are.");
        says("30", "-2, -6, -3 likewise.");
        refusesLike("joinings(%d)");
        due(row(0), 1, "joinings(0)");
        due(row(0, 0, 0, 0), 1, "joinings(0)");
        // Of a row of no numbers just behind one of some.
        SisterCount x = times(3, 0, 2, 0);
        x.row(1, 0, 0);
        due(x, 5, "joinings(0)");
        due(x, 1, "joinings(1)");
        due(x, 5, "joinings(0)");
        due(x, 0, "greatest(1)");
        due(x, 0, "by(1, 1)");
        due(x, 1, "by(1, 0)");
        due(x, 5, "joinings(0)");
        fraction(x, 0, 1, "likely(1)");
        due(x, 5, "joinings(0)");
        due(x, 0, "least(1)");
        due(x, 9, "daughters(0, 1)");
        due(x, 0, "daughters(1, 1)");
        due(x, 1, "sorts(0)");
        due(x, 0, "sorts(1)");
        due(times(10, 0, 0, 0), 1, "joinings(0)");
    }

    private void by() {
        says("31", "JOININGS by which there are just n HOUSES.");
        int[] ways = {0, 1, 511, 9330, 34105, 42525, 22827, 5880, 750, 45, 1, 0};
        for (int n = 0; n < 12; n++) {
            due(times(10, 0, 9, 0), ways[n], "by(0, " + n + ")");
        }
        due(times(10, 0, 9, 0), 0, "by(0, high)");
        due(row(0), 1, "by(0, 0)");
        due(row(0), 0, "by(0, 1)");
        due(twoGirlsOfTwo(), 0, "by(0, 0)");
        says("31", "-2, -6, -3 likewise (n below 0: 0).");
        refusesLike("by(%d, 1)");
        refusesLike("by(%d, -1)");
        due(twoGirlsOfTwo(), 0, "by(0, -1)");
        due(twoGirlsOfTwo(), 0, "by(0, -2)");
        due(twoGirlsOfTwo(), 0, "by(0, low)");
        due(row(0), 0, "by(0, -1)");
    }

    private void likely() {
        says("32", "The mean of HOUSES over all JOININGS, above (what 0), below (1).");
        fraction(row(0), 0, 1, "likely(0)");
        fraction(row(0, 0, 0, 0), 1, 1, "likely(0)");
        fraction(twoGirlsOfTwo(), 3, 2, "likely(0)");
        fraction(times(10, 0, 0, 0), 10, 1, "likely(0)");
        // As many ways of ten: 678570 - 115975 houses of 115975 ways, both with a divisor of 5.
        fraction(times(10, 0, 9, 0), 562595 / 5, 115975 / 5, "likely(0)");
        says("32", "-2 (what), -6, -3 likewise.");
        refusesLike("likely(%d, 0)");
        refusesLike("likely(%d, 1)");
        for (String call : new String[] {"likely(0, 2)", "likely(0, -1)", "likely(0, low)", "likely(0, high)"}) {
            refuses(twoGirlsOfTwo(), -2, call);
        }
    }

    private void joined() {
        says("33", "JOININGS by which two of them are of one HOUSE.");
        due(twoGirlsOfTwo(), 1, "joined(0, 0, 1)");
        due(twoGirlsOfTwo(), 1, "joined(0, 1, 0)");
        due(times(10, 0, 9, 0), 21147, "joined(0, 0, 9)");
        due(times(2, 0, 0, 0), 0, "joined(0, 0, 1)");
        due(row(0, 0, 1, 0, 0, 2, 0), 0, "joined(0, 0, 1)");
        // A girl and a boy, and two others who are together or not.
        due(row(0, 0, 0, 1, 1, 1, 0, 0, 1, 0, 0, 1, 0), 2, "joined(0, 0, 1)");
        due(row(0, 0, 0, 1, 1, 1, 0, 0, 1, 0, 0, 1, 0), 2, "joined(0, 2, 3)");
        says("33", "-2 (places), -6, -3 likewise, one twice.");
        refusesLike("joined(%d, 0, 1)");
        for (String call : new String[] {"joined(0, 0, 2)", "joined(0, 2, 0)", "joined(0, -1, 0)", "joined(0, 0, -1)",
            "joined(0, 0, high)", "joined(0, low, 1)", "joined(0, 0, 0)", "joined(0, 1, 1)", "joined(0, 2, 2)"}) {
            refuses(twoGirlsOfTwo(), -2, call);
        }
        refuses(row(0), -2, "joined(0, 0, 1)");
        refuses(row(0), -2, "joined(0, 0, 0)");
        refuses(times(10, 0, 9, 0), -2, "joined(0, 9, 10)");
    }

    private void daughters() {
        says("34", "Daughters of all these HOUSES, by the JOINING with fewest of them (what 0), most (1).");
        due(row(0), 0, "daughters(0, 0)");
        due(row(0), 0, "daughters(0, 1)");
        due(times(10, 1, 0, 0), 0, "daughters(0, 1)");
        due(times(10, 0, 9, 9), 10, "daughters(0, 0)");
        due(times(10, 0, 9, 9), 100, "daughters(0, 1)");
        due(times(10, 0, 8, 0), 18, "daughters(0, 0)");
        due(row(0, 0, 1, 0, 0, 1, 0, 1, 2, 0), 4, "daughters(0, 0)");
        due(row(0, 0, 1, 0, 0, 1, 0, 1, 2, 0), 6, "daughters(0, 1)");
        says("34", "-2, -6, -3 likewise.");
        refusesLike("daughters(%d, 0)");
        refusesLike("daughters(%d, 1)");
        for (String call : new String[] {"daughters(0, 2)", "daughters(0, -1)", "daughters(0, low)", "daughters(0, high)"}) {
            refuses(twoGirlsOfTwo(), -2, call);
        }
    }

    private void sorts() {
        says("35", "How many unlike HOUSES (girls, boys) TOLD ones tell of.");
        due(row(0), 0, "sorts(0)");
        due(times(10, 0, 0, 0), 1, "sorts(0)");
        due(row(0, 0, 0, 1, 1, 1, 0), 1, "sorts(0)");
        due(row(0, 0, 0, 1, 1, 0, 1), 2, "sorts(0)");
        due(row(0, 0, 0, 0, 0, 1, 0, 0, 2, 0, 0, 3, 0, 0, 4, 0, 0, 5, 0, 0, 6, 0, 0, 7, 0, 0, 8, 0, 0, 9, 0), 10,
            "sorts(0)");
        says("35", "-2, -6, -3 likewise.");
        refusesLike("sorts(%d)");
    }
}
