/** The text of a town: what is said of calls, term I and promises 1 to 5. */
final class TextBoundaries extends Sentences {
    private static final String EIGHT_HOUSES = BARE + "house;".repeat(8);
    private static final String TWENTY_CHILDREN = BARE + ("house;" + "boy 1;".repeat(5)).repeat(4);
    private static final String SIX_QUESTIONS = BARE + "ask all;".repeat(6);
    private static final String SIX_OF_A_HOUSE = BARE + "house;" + "girl 1;".repeat(6);
    private static final String[] ASKED = {"child(1, 2)", "child(2, 2)", "child(9, 0)", "house(0, 0)", "house(0, 1)",
        "house(0, 3)", "house(1, 4)", "house(2, 0)", "scholars()", "truth(0, 0)", "truth(1, 0)", "answer(0, 0)",
        "answer(1, 0)", "tale(0)", "tale(1)", "tale(2)", "are(0)", "are(1)", "are(2)", "seems(0, 0)", "weighed(0, 0)",
        "mean(2, 0)", "mean(2, 1)", "unseen()", "comes(0)", "best(0)", "best(1)", "years(0)", "years(30)", "slips(0)",
        "slips(1)", "kinds(0)", "crowd(0)", "next()", "tells(0)", "tells(1)", "fewest(0)", "fewest(1)", "like(0)",
        "like(1)", "most(0)", "most(1)", "hidden(0, 0)", "hidden(1, 0)", "bread(0)", "bread(1)", "bread(2)",
        "marriages(99)", "between(0, 1, 99)", "suits(0, 99)", "suits(1, 99)", "sought(0, 99)", "sought(1, 99)",
        "heir(0, 0, 0)", "heir(0, 1, 1)", "heir(0, 2, 2)", "place(0, 0)", "place(1, 1)", "quarrel(0, 1)", "quarrel(0, 2)",
        "beds(0, 99)", "squeeze(0, 1)", "census(0)", "census(2)", "off(0)", "off(2)", "twins(0)", "age(0, 0)", "later(0)",
        "later(30)", "school()", "fits(0)", "fits(1)", "enough()", "share(0, 1)", "heavy()", "only()", "eldest(0)",
        "eldest(1)", "eldest(2)", "spread(0)", "clash(0)", "less(0, 2)", "panel(0, 2, 0)", "panel(1, 2, 1)",
        "panel(4, 2, 1)", "panel(5, 2, 1)", "just(2)", "changed(0, 1, 2)", "drawn(7, 70, 0)", "drawn(7, 70, 2)",
        "seen(7, 20, 50, 0)", "count(0)", "count(5)", "count(8)"};
    private static final int QUESTION_MARKS = 0x3f3f3f3f;

    TextBoundaries(Document document, Check check) {
        super(document, check);
    }

    void run() {
        calls();
        grammar();
        optionalWords();
        school();
        children();
        asks();
        slips();
        numbering();
        tokens();
        letters();
        longestTokens();
        firstFault();
        misplacedTokens();
        numbersOutOfBounds();
        oneTooMany();
        slots();
        newObject();
        feed();
        cut();
        town();
        townWithFault();
        fault();
        endSentence();
    }

    /** A text without a fault. */
    private void reads(String text, int lines) {
        SisterCount x = new SisterCount();
        Check.feedText(x, text);
        due(x, lines, "town()");
        due(x, 0, "fault(0)");
        due(x, -1, "fault(1)");
        due(x, lines, "count(6)");
    }

    /** A text with a fault where the first ^ stands, which is not of the text. */
    private void faulty(int kind, String marked) {
        int place = marked.indexOf('^');
        String text = marked.substring(0, place) + marked.substring(place + 1);
        SisterCount x = Check.of(TOWN);
        Check.feedText(x, text);
        due(x, -4, "town()");
        due(x, kind, "fault(0)");
        due(x, place, "fault(1)");
        due(x, 20, "count(6)");
    }

    private void calls() {
        plain("what", "How many sisters have you: a town told as a text, of houses with girls and boys by age, "
            + "half ones, dead ones, those that are away, questions that are asked at school, slips of tongue; "
            + "who is at school, what each answers, how many daughters there are by their tale and how many there "
            + "are, means as they seem, weighed and as they are, houses that nobody sees; which questions tell "
            + "houses apart; rows of answers of children whom one does not know: how many houses they can be of, "
            + "in how many ways they join; false answers, the bold one; years on; schools drawn; and images gone "
            + "back to.");
        says("what", "An object is used for at most 512 calls after it has been made; what later calls answer is free.");
        SisterCount x = new SisterCount();
        // The first four calls: end, feed, end, town.
        Check.feedText(x, BARE);
        due(x, 1, "town()");
        for (int call = 5; call < 512; call++) {
            x.years(30);
        }
        due(x, 507 * 30, "count(8)");
        for (int i = 0; i < 5000; i++) {
            x.years(30);
            x.feed(i, i, i, i, i);
            x.image(i % 3);
        }
        holds("later calls end, too", true);
    }

    private void grammar() {
        says("I", "TOWN: {LINE ;}.");
        reads("", 0);
        reads(" \n", 0);
        reads(BARE, 1);
        reads(BARE + "house;", 2);
        faulty(1, "^;");
        faulty(1, "town school 5 to 9^");
        faulty(1, BARE + "^;");
        faulty(1, BARE + "house^");
        faulty(1, BARE + "house;^;house;");
        faulty(1, BARE + "house ^house;");
        says("I", "LINE: town school N to N | house | girl N [half] [dead] [away] | boy N [half] [dead] [away] | "
            + "ask SORT [older] [younger] [living] [whole] | slip C N N.");
        faulty(1, "town^");
        faulty(1, "town ^5 to 9;");
        faulty(1, "town school ^to 9;");
        faulty(1, "town school 5 ^9;");
        faulty(1, "town school 5 to^;");
        faulty(1, "town school 5 to 9 ^10;");
        faulty(1, BARE + "house ^1;");
        faulty(1, BARE + "house;girl^;");
        faulty(1, BARE + "house;girl ^half 5;");
        faulty(1, BARE + "house;boy 5 ^5;");
        faulty(1, BARE + "house;boy 5 ^living;");
        faulty(1, BARE + "ask^;");
        faulty(1, BARE + "ask ^5;");
        faulty(1, BARE + "ask ^older;");
        faulty(1, BARE + "ask all ^half;");
        faulty(1, BARE + "ask all ^5;");
        String asked = BARE + "house;boy 5;ask all;";
        reads(asked + "slip 0 0 1;", 5);
        faulty(1, asked + "slip^;");
        faulty(1, asked + "slip 0^;");
        faulty(1, asked + "slip 0 0^;");
        faulty(1, asked + "slip ^boy 0 0 1;");
        faulty(1, asked + "slip 0 0 1 ^1;");
    }

    private static String oneIf(boolean isSo, String word) {
        return isSo ? " " + word : "";
    }

    /** Each choice of words that may stand, in their order, and each that may not. */
    private void optionalWords() {
        for (int set = 0; set < 16; set++) {
            boolean isBoy = (set & 8) != 0;
            String words = oneIf((set & 1) != 0, "half") + oneIf((set & 2) != 0, "dead") + oneIf((set & 4) != 0, "away");
            SisterCount x = Check.of(BARE + "house;" + (isBoy ? "boy 7" : "girl 7") + words + ";");
            due(x, set >> 3, "child(0, 1)");
            due(x, set & 1, "child(0, 3)");
            due(x, set >> 1 & 1, "child(0, 4)");
            due(x, set >> 2 & 1, "child(0, 5)");
        }
        String[] states = {"half", "dead", "away"};
        String[] limits = {"older", "younger", "living", "whole"};
        for (String sort : new String[] {"sisters", "brothers", "all"}) {
            for (int set = 0; set < 16; set++) {
                StringBuilder words = new StringBuilder(sort);
                for (int i = 0; i < 4; i++) {
                    words.append(oneIf((set >> i & 1) != 0, limits[i]));
                }
                if ((set & 3) != 3) {
                    reads(BARE + "ask " + words + ";", 2);
                }
            }
        }
        for (int later = 0; later < 3; later++) {
            for (int i = 0; i <= later; i++) {
                faulty(1, BARE + "house;girl 7 " + states[later] + " ^" + states[i] + ";");
            }
        }
        for (int later = 0; later < 4; later++) {
            for (int i = 0; i <= later; i++) {
                faulty(1, BARE + "ask all " + limits[later] + " ^" + limits[i] + ";");
            }
        }
    }

    private void school() {
        says("I", "town is the first LINE and no other: ages 0 .. 30, the second no less than the first.");
        faulty(1, "^house;" + BARE);
        faulty(1, BARE + "^" + BARE);
        faulty(1, BARE + "house;girl 3;ask all;^" + BARE);
        int[][] ages = {{0, 0}, {0, 30}, {30, 30}, {0, 1}, {29, 30}, {5, 5}};
        for (int[] pair : ages) {
            SisterCount x = Check.of("town school " + pair[0] + " to " + pair[1] + ";");
            due(x, 1, "count(6)");
            due(x, pair[0], "count(0)");
            due(x, pair[1], "count(1)");
        }
        faulty(2, "town school ^31 to 31;");
        faulty(2, "town school 0 to ^31;");
        faulty(2, "town school 30 to ^31;");
        faulty(2, "town school 30 to ^29;");
        faulty(2, "town school 1 to ^0;");
        faulty(2, "town school 5 to ^4;");
        faulty(1, "town school ^-1 to 4;");
    }

    private void children() {
        says("I", "girl, boy: of the HOUSE told last, of an age 0 .. 30.");
        SisterCount x = Check.of(BARE + "house;girl 0;house;boy 30;ask all;boy 0;house;house;girl 30;");
        int[][] parts = {{0, 0, 0}, {1, 1, 30}, {1, 1, 0}, {3, 0, 30}};
        for (int child = 0; child < 4; child++) {
            for (int what = 0; what < 3; what++) {
                due(x, parts[child][what], "child(" + child + ", " + what + ")");
            }
        }
        faulty(2, BARE + "house;girl ^31;");
        faulty(2, BARE + "house;boy ^31;");
        faulty(1, BARE + "house;boy ^-1;");
    }

    private void asks() {
        says("I", "SORT: sisters | brothers | all; not both older and younger.");
        reads(BARE + "ask sisters;ask brothers;ask all;", 4);
        reads(BARE + "ask all older;ask all younger;", 3);
        faulty(1, BARE + "ask ^girls;");
        faulty(1, BARE + "ask ^sister;");
        faulty(1, BARE + "ask ^brotherss;");
        faulty(1, BARE + "ask ^al;");
        faulty(1, BARE + "ask all ^all;");
        faulty(1, BARE + "ask all older ^younger;");
        faulty(1, BARE + "ask all younger ^older;");
    }

    private void slips() {
        says("I", "slip: of a CHILD, in answers to a QUESTION told ahead both, 1 .. 20 (a later one of these strikes).");
        String told = BARE + "house;girl 5;girl 5;ask all;ask brothers;";
        due(Check.of(told + "slip 1 1 1;"), 1, "answer(1, 1)");
        due(Check.of(told + "slip 1 1 20;"), 20, "answer(1, 1)");
        faulty(2, told + "slip 1 1 ^0;");
        faulty(2, told + "slip 1 1 ^21;");
        faulty(2, told + "slip ^2 1 1;girl 5;");
        faulty(2, told + "slip 1 ^2 1;ask all;");
        faulty(2, BARE + "slip ^0 0 1;house;girl 5;ask all;");
        faulty(2, BARE + "house;girl 5;slip 0 ^0 1;ask all;");
        reads(BARE + "ask all;house;girl 5 dead;slip 0 0 1;", 5);
        due(Check.of(told + "slip 1 1 20;slip 1 1 1;"), 1, "answer(1, 1)");
        due(Check.of(told + "slip 1 1 1;slip 1 1 20;slip 0 1 3;slip 1 0 4;"), 20, "answer(1, 1)");
        // Another child's and another question's slip strike nothing.
        SisterCount x = Check.of(told + "slip 1 1 7;slip 0 1 3;slip 1 0 4;");
        due(x, 7, "answer(1, 1)");
        due(x, 3, "answer(0, 1)");
        due(x, 6, "answer(1, 0)");
        due(x, 2, "answer(0, 0)");
    }

    private void numbering() {
        says("I", "HOUSES 0 .. 7, CHILDREN 0 .. 19 (six of a HOUSE at most), QUESTIONS 0 .. 5 are numbered as they stand.");
        SisterCount x = Check.of(FULL);
        due(x, 8, "count(2)");
        due(x, 20, "count(3)");
        due(x, 6, "count(4)");
        due(x, 6, "house(0, 0)");
        due(x, 6, "house(1, 0)");
        due(x, 0, "house(7, 0)");
        due(x, 12, "house(2, 4)");
        due(x, 0, "child(0, 0)");
        due(x, 1, "child(0, 2)");
        due(x, 0, "child(5, 0)");
        due(x, 1, "child(6, 0)");
        due(x, 2, "child(17, 0)");
        due(x, 4, "child(19, 0)");
        due(x, 20, "answer(19, 5)");
        due(x, 10, "truth(0, 0)");
        due(x, 0, "truth(0, 1)");
        due(x, 10, "truth(0, 3)");
        due(x, 0, "truth(0, 4)");
    }

    private static boolean isBlank(int sign) {
        return sign == 32 || sign == 10;
    }

    private static boolean isDigit(int sign) {
        return sign >= 48 && sign <= 57;
    }

    private static boolean isLetter(int sign) {
        return sign >= 97 && sign <= 122;
    }

    /** Each byte that there is, inside a number, behind a word, as a word and at the end of one. */
    private void tokens() {
        says("I", "TOKENS, blanks (32, 10) aside, the longest: words (a .. z), numbers (digits), the sign ; .");
        for (int sign = 0; sign < 256; sign++) {
            char c = (char) sign;
            if (isBlank(sign) || isDigit(sign)) {
                SisterCount x = Check.of("town school 2" + c + " to 29;");
                due(x, isDigit(sign) ? 20 + sign - 48 : 2, "count(0)");
            } else {
                faulty(1, "town school 2^" + c + " to 29;");
            }
            if (isBlank(sign)) {
                reads(BARE + "house" + c + ";", 2);
            } else if (isLetter(sign)) {
                faulty(1, BARE + "^house" + c + ";");
            } else {
                faulty(1, BARE + "house" + (sign == ';' ? ";^" : "^") + c + ";");
            }
            if (isBlank(sign)) {
                reads(BARE + c, 1);
            } else {
                faulty(1, BARE + "^" + c);
            }
        }
    }

    /** A text with every word there is: no letter of any can be another one, or go. */
    private void letters() {
        String text = "town school 5 to 9;house;girl 5 half dead away;boy 5;ask sisters older living whole;"
            + "ask brothers younger;ask all;slip 0 0 1;";
        reads(text, 8);
        int word = 0;
        for (int i = 0; i < text.length(); i++) {
            word = i > 0 && isLetter(text.charAt(i - 1)) ? word : i;
            if (isLetter(text.charAt(i))) {
                String marked = text.substring(0, word) + "^" + text.substring(word, i);
                faulty(1, marked + "q" + text.substring(i + 1));
                faulty(1, marked + text.substring(i + 1));
                faulty(1, marked + text.charAt(i) + text.substring(i));
            }
        }
    }

    private void longestTokens() {
        reads("town school5to9;house;girl5half dead;boy 0007away;ask all;slip0 0 020;", 6);
        due(BARE + "house;girl 10;", 10, "child(0, 2)");
        due(BARE + "house;girl " + "0".repeat(1100) + "30;", 30, "child(0, 2)");
        faulty(1, BARE + "house;girl 1 ^0;");
        faulty(1, BARE + "house;girl 1 ^halfdead;");
        faulty(1, BARE + "^ho use;");
        faulty(1, BARE + "^housegirl 5;");
        faulty(1, "^townschool 5 to 9;");
        faulty(1, BARE + "^" + "a".repeat(1181));
        faulty(2, BARE + "house;girl ^" + "9".repeat(1100) + ";");
    }

    private void firstFault() {
        says("I", "FAULTS, the first by its place (a TOKEN's first byte; the end's), of one place the least:");
        faulty(2, BARE + "house;boy ^31;?");
        faulty(1, BARE + "house;^?boy 31;");
        faulty(3, EIGHT_HOUSES + "^house;girl 31;?");
        faulty(1, EIGHT_HOUSES + "^girls 31;house;");
        faulty(2, "town school ^31 to 4;house");
        faulty(3, SIX_QUESTIONS + "^ask cats;");
        faulty(1, "  ^towns school 31 to 30;");
        faulty(2, "town school\n ^0031 to 30;");
        faulty(1, "town school 5 to 9^");
        faulty(1, "town school 5 to 9 \n ^");
        faulty(1, "   town  ^");
        faulty(1, BARE + " ".repeat(1176) + "house^");
        faulty(1, BARE + " ".repeat(1175) + "house^?");
        // Where two could be told: what cannot stand there is not out of bounds, nor too many.
        faulty(1, BARE + "house ^99;");
        faulty(1, BARE + "^boy 31;");
        faulty(1, EIGHT_HOUSES + "girl 5 ^house;");
        faulty(1, SIX_QUESTIONS + "house;girl ^ask;");
        faulty(1, TWENTY_CHILDREN + "ask ^boy;");
    }

    private void misplacedTokens() {
        says("I", "1 a TOKEN that is none, or can't stand there (town behind the first LINE, another word ahead of it; "
            + "younger behind older; a girl, a boy ahead of any house: at it).");
        faulty(1, "^?");
        faulty(1, BARE + "house^,");
        faulty(1, BARE + "house;^Girl 5;");
        faulty(1, BARE + "^town school 5 to 9;");
        faulty(1, BARE + "house;^town;");
        for (String word : new String[] {"house", "girl", "boy", "ask", "slip", "school", "to", "half", "x"}) {
            faulty(1, "^" + word + " 5;");
            faulty(1, "^" + word + "; town school 5 to 9;");
        }
        faulty(1, BARE + "ask sisters older ^younger;");
        faulty(1, BARE + "^girl 5;house;");
        faulty(1, BARE + "ask all;^boy 5 half;house;");
        faulty(1, BARE + "^boy 31;house;");
        faulty(1, BARE + "^girl;");
    }

    private void numbersOutOfBounds() {
        says("I", "2 a number out of its bounds, not as said.");
        faulty(2, "town school ^31 to 30;");
        faulty(2, "town school ^4294967296 to 30;");
        faulty(2, "town school ^18446744073709551616 to 30;");
        faulty(2, "town school 9 to ^8;");
        faulty(2, "town school 9 to ^4294967305;");
        faulty(2, BARE + "house;girl ^31;");
        faulty(2, BARE + "house;girl ^1000;");
        faulty(2, BARE + "house;girl ^4294967296;");
        faulty(2, BARE + "house;girl ^10000000000;");
        String full = FULL.replace("slip 19 5 20;", "");
        reads(full + "slip 19 5 1;", 36);
        faulty(2, full + "slip ^20 5 1;");
        faulty(2, full + "slip 19 ^6 1;");
        faulty(2, full + "slip 19 5 ^0;");
        faulty(2, full + "slip 19 5 ^21;");
        faulty(2, full + "slip ^4294967296 5 1;");
        faulty(2, full + "slip 19 ^4294967296 1;");
        faulty(2, full + "slip 19 5 ^4294967297;");
        faulty(2, full + "slip ^20 6 21;");
        faulty(2, full + "slip 19 ^6 21;");
    }

    private void oneTooMany() {
        says("I", "3 a 9th house, a 21st child or a seventh of a house, a 7th ask, at its word.");
        reads(EIGHT_HOUSES, 9);
        faulty(3, EIGHT_HOUSES + "^house;");
        faulty(3, EIGHT_HOUSES + "boy 5;^house");
        reads(TWENTY_CHILDREN, 25);
        faulty(3, TWENTY_CHILDREN + "^boy 1;");
        faulty(3, TWENTY_CHILDREN + "^girl 31;");
        faulty(3, TWENTY_CHILDREN + "house;^girl 1;");
        faulty(3, BARE + ("house;" + "boy 1 dead;".repeat(5)).repeat(4) + "house;^girl 1 away;");
        reads(SIX_OF_A_HOUSE, 8);
        reads(SIX_OF_A_HOUSE + "house;girl 1;", 10);
        faulty(3, SIX_OF_A_HOUSE + "^girl 1;");
        faulty(3, SIX_OF_A_HOUSE + "^boy");
        faulty(3, SIX_OF_A_HOUSE + "house;" + "boy 1 dead;".repeat(6) + "^girl 1;");
        reads(SIX_QUESTIONS, 7);
        faulty(3, SIX_QUESTIONS + "^ask all;");
        faulty(3, SIX_QUESTIONS + "house;^ask");
    }

    private void slots() {
        says("I", "SLOTS 0 .. 3 have rows of numbers of 1, 2, 4 or 8 bytes (WIDTH 0 .. 3), at most 60, or nothing.");
        SisterCount x = new SisterCount();
        for (int slot = 0; slot < 4; slot++) {
            due(x, -6, "write(" + slot + ", 0, 0)");
            due(x, slot, "count(9)");
            due(x, 0, "row(" + slot + ", " + slot + ", 60)");
            due(x, 0, "write(" + slot + ", 59, 1)");
            due(x, -7, "write(" + slot + ", 60, 1)");
        }
        due(x, 4, "count(9)");
        due(x, -2, "row(0, 0, 61)");
        due(x, -2, "row(4, 0, 60)");
        due(x, -2, "row(0, 4, 60)");
    }

    private void newObject() {
        says("1", "No TOWN.");
        SisterCount x = new SisterCount();
        for (int what = 0; what < 10; what++) {
            due(x, 0, "count(" + what + ")");
        }
        for (String call : new String[] {"scholars()", "unseen()", "next()", "school()", "enough()", "heavy()",
            "only()", "child(0, 0)", "house(0, 0)", "truth(0, 0)", "are(0)", "years(0)"}) {
            due(x, -2, call);
        }
        due(x, -1, "end(1)");
        due(x, 0, "town()");
        due(x, -2, "scholars()");
    }

    private void feed() {
        says("2", "Twenty bytes come behind the TAPE, four of each number, the highest first: how many it has;");
        SisterCount x = new SisterCount();
        due(x, 20, "feed(" + 0x746f776e + ", " + 0x20736368 + ", " + 0x6f6f6c20 + ", " + 0x3520746f + ", "
            + 0x20393b0a + ")");
        due(x, 40, "feed(" + 0x686f7573 + ", " + 0x653b6769 + ", " + 0x726c2037 + ", " + 0x3b626f79 + ", "
            + 0x20383b0a + ")");
        due(x, 4, "town()");
        due(x, 5, "count(0)");
        due(x, 9, "count(1)");
        due(x, 7, "child(0, 2)");
        due(x, 8, "child(1, 2)");
        due(x, 20, "feed(low, high, -1, 0, 1)");
        // The bytes 128, 0, 0, 0: no token begins with the first.
        due(x, -4, "town()");
        due(x, 0, "fault(1)");
        says("2", "NONE, and none come, if it would have more than 1,200.");
        x = new SisterCount();
        String text = BARE + " ".repeat(1175) + "house;";
        for (int i = 0; i < 1200; i += 20) {
            Check.feedBehind(x, i, text.substring(i, i + 20));
            due(x, i + 20, "count(7)");
        }
        due(x, -1, "feed(low, -1, 0, 1, high)");
        due(x, -1, "feed(" + QUESTION_MARKS + ", 0, 0, 0, 0)");
        due(x, 1200, "count(7)");
        due(x, 2, "town()");
        for (int has : new int[] {1181, 1190, 1199}) {
            x = new SisterCount();
            Check.feedText(x, " ".repeat(has - 19) + BARE);
            due(x, has, "count(7)");
            due(x, -1, "feed(" + QUESTION_MARKS + ", 0, 0, 0, 0)");
            due(x, has, "count(7)");
            due(x, -1, "end(" + (has + 1) + ")");
            due(x, 1, "town()");
        }
        x = new SisterCount();
        Check.feedText(x, " ".repeat(1161) + BARE);
        due(x, 1200, "feed(" + QUESTION_MARKS + ", 0, 0, 0, 0)");
        due(x, -4, "town()");
        due(x, 1180, "fault(1)");
    }

    private void cut() {
        says("3", "The TAPE has its first n bytes alone: n;");
        SisterCount x = new SisterCount();
        due(x, 0, "end(0)");
        Check.feedText(x, BARE + "?");
        due(x, 20, "end(20)");
        due(x, 19, "end(19)");
        due(x, 19, "count(7)");
        due(x, 1, "town()");
        Check.feedText(x, BARE);
        due(x, 0, "end(0)");
        due(x, 0, "count(7)");
        due(x, 0, "town()");
        says("3", "NONE, and nothing happens, if it has not so many, or n is below 0.");
        x = new SisterCount();
        refuses(x, -1, "end(1)");
        x = new SisterCount();
        refuses(x, -1, "end(-1)");
        for (String call : new String[] {"end(20)", "end(1200)", "end(high)", "end(-1)", "end(low)"}) {
            x = new SisterCount();
            Check.feedText(x, BARE);
            refuses(x, -1, call);
            due(x, 1, "town()");
        }
        x = new SisterCount();
        Check.feedText(x, BARE + "house;");
        due(x, 19, "end(19)");
        due(x, -1, "end(25)");
        due(x, -1, "end(20)");
        due(x, 1, "town()");
        due(x, -1, "end(1)");
    }

    private void town() {
        says("4", "The TAPE (empty then) is the TOWN");
        SisterCount x = new SisterCount();
        Check.feedText(x, BARE);
        due(x, 1, "town()");
        due(x, 0, "count(7)");
        due(x, -1, "end(1)");
        due(x, 20, "feed(0, 0, 0, 0, 0)");
        says("4", "(in place of another): how many LINES");
        x = Check.of(FULL);
        due(x, 36, "count(6)");
        Check.feedText(x, BARE + "house;girl 5;ask brothers;");
        due(x, 4, "town()");
        due(x, 1, "count(2)");
        due(x, 1, "count(3)");
        due(x, 1, "count(4)");
        due(x, -2, "child(1, 0)");
        due(x, -2, "house(1, 0)");
        due(x, -2, "truth(0, 1)");
        due(x, 0, "answer(0, 0)");
        due(x, 1, "house(0, 0)");
        // A slip, a limit of a question and the words of a child are of the former town alone.
        x = Check.of(BARE + "house;girl 5 half dead away;ask all older living whole;slip 0 0 9;");
        Check.feedText(x, BARE + "house;girl 5;boy 5;ask all;");
        due(x, 5, "town()");
        due(x, 2, "answer(0, 0)");
        due(x, 0, "child(0, 3)");
        reads(BARE + "house;boy 5;ask all;" + "slip 0 0 1;".repeat(105), 109);
        nothingIsLeft();
        says("4", "(0: there is none then);");
        for (String text : new String[] {"", " ", "\n".repeat(1200)}) {
            x = Check.of(TOWN);
            Check.feedText(x, text);
            due(x, 0, "town()");
            due(x, -2, "scholars()");
            due(x, -2, "child(0, 0)");
            due(x, -2, "house(0, 0)");
            due(x, -2, "truth(0, 0)");
            for (int what = 0; what < 10; what++) {
                due(x, 0, "count(" + what + ")");
            }
        }
        says("4", "no years are gone.");
        x = Check.of(TOWN);
        x.years(7);
        due(x, 7, "count(8)");
        Check.feedText(x, TOWN);
        due(x, 20, "town()");
        due(x, 0, "count(8)");
        due(x, 14, "child(0, 2)");
        x.years(7);
        due(x, 0, "town()");
        due(x, 0, "count(8)");
    }

    /** A town answers as on a new object, whatever greater town it takes the place of. */
    private void nothingIsLeft() {
        String young = FULL.replace(" half", "").replace(" dead", "").replace(" away", "") + "slip 3 2 7;";
        String grown = BARE + "house;boy 20;girl 20;".repeat(8) + "boy 20;girl 20;boy 20;girl 20;";
        for (String greater : new String[] {young, grown}) {
            for (String town : new String[] {TOWN, "town school 0 to 30;house;girl 0;", BARE + "house;ask all;",
                "town school 0 to 0;house;boy 30;house;girl 30 half;ask all;slip 1 0 1;"}) {
                for (String call : ASKED) {
                    SisterCount behind = Check.of(greater);
                    behind.years(30);
                    Check.feedText(behind, town);
                    behind.town();
                    sameAnswer(Check.of(town), behind, call);
                }
            }
        }
    }

    private void townWithFault() {
        says("4", "-4: a FAULT (all stays).");
        for (String text : new String[] {BARE + "?", BARE + "house;girl 31;", EIGHT_HOUSES + "house;", "town"}) {
            SisterCount x = Check.of(TOWN);
            x.years(2);
            x.image(1);
            Check.putRow(x, 2, 0, 1, 2, 0);
            int scholars = x.scholars();
            Check.feedText(x, text);
            due(x, -4, "town()");
            due(x, text.length(), "count(7)");
            due(x, 20, "count(6)");
            due(x, 2, "count(8)");
            due(x, 16, "child(0, 2)");
            due(x, 5, "answer(4, 0)");
            due(x, scholars, "scholars()");
            due(x, 2, "daughters(2, 0)");
            due(x, -4, "town()");
            due(x, 0, "back(1)");
            due(x, 2, "count(8)");
            due(x, 20, "count(6)");
        }
        SisterCount none = new SisterCount();
        Check.feedText(none, "town");
        due(none, -4, "town()");
        due(none, -2, "scholars()");
        due(none, 4, "count(7)");
    }

    private void fault() {
        says("5", "Of the latest town(), what 0: its FAULT, 0 without, 1: its place (NONE without).");
        SisterCount x = new SisterCount();
        String[] texts = {BARE, "?", EIGHT_HOUSES + "house;", "", "town school 31 to 31;", BARE};
        int[][] faults = {{0, -1}, {1, 0}, {3, 67}, {0, -1}, {2, 12}, {0, -1}};
        for (int i = 0; i < texts.length; i++) {
            Check.feedText(x, texts[i]);
            x.town();
            due(x, faults[i][0], "fault(0)");
            due(x, faults[i][1], "fault(1)");
        }
        x.image(0);
        Check.feedText(x, BARE + "^");
        x.town();
        Check.feedText(x, BARE);
        x.back(0);
        due(x, 1, "fault(0)");
        due(x, 19, "fault(1)");
        says("5", "NONE for another what, and ahead of any (what 1).");
        x = new SisterCount();
        due(x, -1, "fault(1)");
        due(x, 0, "fault(0)");
        Check.feedText(x, "?");
        due(x, -1, "fault(1)");
        due(x, 0, "fault(0)");
        x.town();
        due(x, 0, "fault(1)");
        for (String call : new String[] {"fault(2)", "fault(-1)", "fault(low)", "fault(high)"}) {
            refuses(x, -1, call);
            due(new SisterCount(), -1, call);
            due(BARE, -1, call);
        }
    }
}
