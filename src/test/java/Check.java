/** What the tests share: comparing answers, and feeding a text to a tape. */
final class Check {
    private int asked = 0;
    private int wrong = 0;
    private String about = "";

    /** Says which promise the rows to come are about. */
    void about(String what) {
        about = what;
    }

    void due(String call, long got, long want) {
        asked++;
        if (got != want) {
            wrong++;
            if (wrong <= 50) {
                System.out.println(about + ": " + call + " answered " + got + ", due is " + want);
            }
        }
    }

    int asked() {
        return asked;
    }

    void isTrue(String what, boolean holds) {
        due(what, holds ? 1 : 0, 1);
    }

    /** Puts a text behind the tape, which has so many bytes. */
    static void feedBehind(SisterCount x, int before, String text) {
        int[] fed = new int[(text.length() + 19) / 20 * 5];
        for (int i = 0; i < text.length(); i++) {
            fed[i / 4] |= (text.charAt(i) & 255) << 24 - i % 4 * 8;
        }
        for (int i = 0; i < fed.length; i += 5) {
            x.feed(fed[i], fed[i + 1], fed[i + 2], fed[i + 3], fed[i + 4]);
        }
        x.end(before + text.length());
    }

    /** A text on a cleared tape. */
    static void feedText(SisterCount x, String text) {
        x.end(0);
        feedBehind(x, 0, text);
    }

    /** A new object with a town. */
    static SisterCount of(String text) {
        SisterCount x = new SisterCount();
        feedText(x, text);
        x.town();
        return x;
    }

    /** Puts a row of a width to a slot. */
    static void putRow(SisterCount x, int slot, int width, long... numbers) {
        x.row(slot, width, numbers.length);
        for (int i = 0; i < numbers.length; i++) {
            x.write(slot, i, numbers[i]);
        }
    }

    void finish(String name) {
        System.out.println(name + ": " + asked + " answers, " + wrong + " not as due");
        if (wrong != 0 || asked == 0) {
            System.exit(1);
        }
    }
}
