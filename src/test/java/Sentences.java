import java.lang.reflect.InvocationTargetException;
import java.lang.reflect.Method;

/** Rows of tests that stand below the sentences of the document that they are of. */
abstract class Sentences {
    static final String BARE = "town school 5 to 9;";

    /*
     * Children: 0 girl 14, 1 half girl 9, 2 boy 6, 3 dead girl 3 | 4 boy 10, 5 boy 10 who
     * is away, 6 girl 16 | 7 girl 2, 8 half boy 20 | none. Scholars: 0, 1, 2, 4.
     */
    static final String TOWN = "town school 6 to 14;"
        + "house; girl 14; girl 9 half; boy 6; girl 3 dead;"
        + "house; boy 10; boy 10 away; girl 16;"
        + "house; girl 2; boy 20 half;"
        + "house;"
        + "ask sisters; ask all older living; ask brothers younger whole;"
        + "slip 4 0 3; slip 0 1 1; slip 0 1 2;";

    /* As many houses, children (0 .. 5, 6 .. 11, 12 .. 17, 18, 19) and questions as can be. */
    static final String FULL = "town school 0 to 30;"
        + "house;girl 1;girl 2;girl 3;girl 4;girl 5;girl 6;"
        + "house;boy 1;boy 2;boy 3;boy 4;boy 5;boy 6;"
        + "house;girl 7;boy 8;girl 9 half;boy 10 half;girl 11 dead;boy 12 away;"
        + "house;girl 30;house;boy 0;house;house;house;"
        + "ask sisters;ask brothers;ask all;ask all older;ask all younger;ask all living whole;"
        + "slip 19 5 20;";

    /* Twenty scholars. */
    static final String TWENTY = "town school 0 to 30;" + ("house;" + "girl 3;".repeat(5)).repeat(4)
        + "ask all;ask sisters;";

    private final Document document;
    private final Check check;
    private String sentence = "";
    private int rowsBefore = -1;

    Sentences(Document document, Check check) {
        this.document = document;
        this.check = check;
    }

    /** The rows to come are of these words, which name a boundary. */
    final void says(String section, String words) {
        endSentence();
        sentence = section + ": \"" + words + "\"";
        check.about(sentence);
        check.isTrue("the document says so", document.quote(section, words));
        rowsBefore = check.asked();
    }

    /** These words name no boundary: PromiseTests and ModelTests have rows for them. */
    final void plain(String section, String words) {
        check.about(section + ": \"" + words + "\"");
        check.isTrue("the document says so", document.quote(section, words));
        check.about(sentence);
    }

    /** Each sentence must have had a row. */
    final void endSentence() {
        if (rowsBefore >= 0) {
            boolean hasRows = check.asked() > rowsBefore;
            check.isTrue("a sentence has rows", hasRows);
        }
        rowsBefore = -1;
    }

    final void due(SisterCount x, long want, String call) {
        check.due(call, call(x, call), want);
    }

    /** The first object's answer is due from the other, too. */
    final void sameAnswer(SisterCount first, SisterCount other, String call) {
        check.due(call, call(other, call), call(first, call));
    }

    final void holds(String what, boolean isSo) {
        check.isTrue(what, isSo);
    }

    /** Calls on a new object with a town. */
    final void due(String town, long want, String... calls) {
        for (String call : calls) {
            due(Check.of(town), want, call);
        }
    }

    /** What stands above and below in a fraction: the call without its last argument. */
    final void fraction(SisterCount x, long above, long below, String call) {
        String start = call.substring(0, call.length() - 1) + ", ";
        due(x, above, start + "0)");
        due(x, below, start + "1)");
    }

    /** A call that is refused, and nothing happens. */
    final void refuses(SisterCount x, long want, String call) {
        String before = state(x);
        due(x, want, call);
        check.isTrue(call + " changes nothing", before.equals(state(x)));
    }

    /** Each call on a new object with a town. */
    final void refuses(String town, long want, String... calls) {
        for (String call : calls) {
            refuses(Check.of(town), want, call);
        }
    }

    /** Refused without a town: on a new object, and where a full town was and is no more. */
    final void refusesWithoutTown(long want, String... calls) {
        for (String call : calls) {
            refuses(withRows(new SisterCount()), want, call);
            SisterCount emptied = withRows(Check.of(FULL));
            emptied.town();
            refuses(emptied, want, call);
        }
    }

    private static SisterCount withRows(SisterCount x) {
        Check.putRow(x, 0, 0, 0, 0, 0);
        Check.putRow(x, 1, 3, 0, 1, 1, 0, 1, 1);
        return x;
    }

    /** What can be asked of an object without changing it, in some fifty calls. */
    private static String state(SisterCount x) {
        StringBuilder text = new StringBuilder();
        for (int what = 0; what < 10; what++) {
            text.append(x.count(what)).append(' ');
        }
        text.append(x.fault(0)).append(' ').append(x.fault(1)).append(' ');
        text.append(x.scholars()).append(' ').append(x.unseen()).append(' ').append(x.slips(0)).append(' ');
        for (int sort = 0; sort < 3; sort++) {
            text.append(x.tale(sort)).append(' ').append(x.are(sort)).append(' ');
        }
        for (int house = 0; house < 8; house++) {
            text.append(x.house(house, 1)).append(' ').append(x.age(house, 0)).append(' ');
        }
        for (int slot = 0; slot < 4; slot++) {
            text.append(x.wrong(slot)).append(' ').append(x.joinings(slot)).append(' ');
            text.append(x.daughters(slot, 1)).append(' ');
        }
        return text.toString();
    }

    /** Carries out a call that is written as a text; low and high are the least and greatest int. */
    private static long call(SisterCount x, String call) {
        int open = call.indexOf('(');
        String name = call.substring(0, open);
        String inside = call.substring(open + 1, call.length() - 1);
        String[] words = inside.isEmpty() ? new String[0] : inside.split(", ");
        for (Method method : SisterCount.class.getMethods()) {
            if (method.getName().equals(name)) {
                return invoke(x, method, words);
            }
        }
        throw new IllegalArgumentException(call);
    }

    private static long invoke(SisterCount x, Method method, String[] words) {
        Object[] arguments = new Object[words.length];
        for (int i = 0; i < words.length; i++) {
            long number = switch (words[i]) {
                case "low" -> Integer.MIN_VALUE;
                case "high" -> Integer.MAX_VALUE;
                default -> Long.parseLong(words[i]);
            };
            boolean isLong = method.getParameterTypes()[i] == long.class;
            arguments[i] = isLong ? (Object) number : (Object) Math.toIntExact(number);
        }
        try {
            return ((Number) method.invoke(x, arguments)).longValue();
        } catch (InvocationTargetException | IllegalAccessException e) {
            throw new IllegalStateException(method + " fails", e);
        }
    }
}
