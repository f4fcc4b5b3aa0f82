/** Counts, images and slots: promises 69 to 74. */
final class SlotBoundaries extends Sentences {
    SlotBoundaries(Document document, Check check) {
        super(document, check);
    }

    void run() {
        count();
        image();
        back();
        row();
        write();
        paste();
        pasteRefusals();
        endSentence();
    }

    private void count() {
        plain("69", "0 school from, 1 to, 2 HOUSES, 3 CHILDREN, 4 QUESTIONS, 5 SCHOLARS, 6 LINES, 7 bytes of the TAPE, 8 years "
            + "that are gone, 9 SLOTS that have a row.");
        says("69", "NONE for others (0 without a TOWN).");
        refuses(TOWN, -1, "count(10)", "count(-1)", "count(low)", "count(high)");
        int[] full = {0, 30, 8, 20, 6, 18, 36, 0, 0, 0};
        for (int what = 0; what < 10; what++) {
            due(FULL, full[what], "count(" + what + ")");
        }
        SisterCount x = Check.of(FULL);
        for (int slot = 0; slot < 4; slot++) {
            x.row(slot, 0, 0);
            due(x, slot + 1, "count(9)");
            x.row(slot, 0, 60);
            due(x, slot + 1, "count(9)");
        }
        SisterCount emptied = Check.of(TOWN);
        emptied.years(9);
        emptied.town();
        for (SisterCount none : new SisterCount[] {new SisterCount(), emptied}) {
            for (int what = 0; what < 10; what++) {
                due(none, 0, "count(" + what + ")");
            }
            due(none, -1, "count(10)");
            due(none, -1, "count(-1)");
        }
    }

    private void image() {
        says("70", "IMAGE k (0 .. 2) keeps the TOWN and how many years are gone: 0.");
        SisterCount x = Check.of(TOWN);
        for (int k = 0; k < 3; k++) {
            due(x, 0, "image(" + k + ")");
            x.years(1);
        }
        for (int k = 2; k >= 0; k--) {
            due(x, 0, "back(" + k + ")");
            due(x, k, "count(8)");
            due(x, 14 + k, "child(0, 2)");
            due(x, 3, "child(3, 2)");
        }
        // What happens behind it is nothing to the image; a later image takes its place.
        x = Check.of(TOWN);
        x.image(0);
        Check.feedText(x, FULL);
        x.town();
        x.years(5);
        due(x, 0, "image(1)");
        due(x, 0, "back(0)");
        due(x, 20, "count(6)");
        due(x, 5, "answer(4, 0)");
        due(x, 2, "answer(0, 1)");
        due(x, 0, "back(1)");
        due(x, 36, "count(6)");
        due(x, 5, "count(8)");
        due(x, 20, "answer(19, 5)");
        due(x, 0, "image(0)");
        due(x, 0, "back(0)");
        due(x, 36, "count(6)");
        // Without a town it keeps that there is none.
        x = new SisterCount();
        due(x, 0, "image(2)");
        Check.feedText(x, TOWN);
        x.town();
        due(x, 0, "back(2)");
        due(x, -2, "scholars()");
        due(x, 0, "count(3)");
        says("70", "-2: no such k.");
        refuses(TOWN, -2, "image(3)", "image(-1)", "image(low)", "image(high)");
        refusesWithoutTown(-2, "image(3)", "image(-1)");
    }

    private void back() {
        says("71", "These are as IMAGE k has them: 0.");
        SisterCount x = Check.of(TOWN);
        Check.putRow(x, 0, 0, 1, 2, 0);
        x.image(1);
        x.years(3);
        Check.feedText(x, "town?");
        x.town();
        Check.putRow(x, 0, 0, 1, 3, 0);
        for (int i = 0; i < 3; i++) {
            due(x, 0, "back(1)");
            due(x, 0, "count(8)");
            due(x, 14, "child(0, 2)");
            due(x, 23, "scholars()");
            // The tape, the fault and the slots are not of an image.
            due(x, 5, "count(7)");
            due(x, 1, "fault(0)");
            due(x, 4, "fault(1)");
            due(x, 3, "daughters(0, 0)");
            x.years(1 + i);
        }
        Check.feedText(x, "");
        x.town();
        due(x, -2, "scholars()");
        due(x, 0, "back(1)");
        due(x, 23, "scholars()");
        says("71", "-2: no such k; -6: it has nothing.");
        refuses(TOWN, -2, "back(3)", "back(-1)", "back(low)", "back(high)");
        refuses(TOWN, -6, "back(0)", "back(1)", "back(2)");
        refusesWithoutTown(-6, "back(0)", "back(2)");
        x = Check.of(TOWN);
        x.image(1);
        refuses(x, -6, "back(0)");
        refuses(x, -6, "back(2)");
        due(x, 0, "back(1)");
    }

    private void row() {
        says("72", "A SLOT (0 .. 3) has a row of n numbers of a WIDTH, all 0 (in place of another one): 0.");
        for (int slot = 0; slot < 4; slot++) {
            for (int width = 0; width < 4; width++) {
                SisterCount x = Check.of(BARE);
                for (int n : new int[] {60, 1, 0}) {
                    due(x, 0, "row(" + slot + ", " + width + ", " + n + ")");
                    due(x, 1, "count(9)");
                    due(x, n == 0 ? -7 : 0, "write(" + slot + ", " + (n - 1) + ", 1)");
                    due(x, -7, "write(" + slot + ", " + n + ", 1)");
                }
            }
        }
        // All 0: what stood there, inside a longer row, too, is gone.
        SisterCount x = Check.of(BARE);
        Check.putRow(x, 2, 3, 1, 9, 9, 1, 9, 9, 1, 9, 9);
        due(x, 27, "daughters(2, 1)");
        due(x, 0, "row(2, 0, 3)");
        due(x, 1, "daughters(2, 1)");
        due(x, 0, "row(2, 3, 9)");
        due(x, 3, "daughters(2, 1)");
        due(x, 3, "least(2)");
        due(x, 1, "joinings(2)");
        says("72", "-2: there is no such SLOT or WIDTH (0 .. 3), or n is above 60;");
        refuses(BARE, -2, "row(4, 0, 1)", "row(-1, 0, 1)", "row(low, 0, 1)", "row(high, 0, 1)", "row(0, 4, 1)", "row(0, -1, 1)",
            "row(0, low, 1)", "row(0, high, 1)", "row(0, 0, 61)", "row(0, 0, high)", "row(4, 0, -1)", "row(0, 4, -1)");
        says("72", "-3, and the SLOT stays: n is below 0.");
        refuses(BARE, -3, "row(0, 0, -1)", "row(3, 3, -1)", "row(0, 0, low)");
        for (String call : new String[] {"row(1, 2, -1)", "row(1, 0, low)", "row(1, 2, 61)", "row(1, 4, 3)"}) {
            x = Check.of(BARE);
            Check.putRow(x, 1, 0, 1, 4, 0);
            refuses(x, call.endsWith("61)") || call.endsWith("3)") ? -2 : -3, call);
            due(x, 4, "daughters(1, 0)");
            // Of its width still: 256 is cut to 0.
            due(x, 0, "write(1, 1, 256)");
            due(x, 0, "daughters(1, 0)");
        }
    }

    private void write() {
        says("73", "Number i of the SLOT's row is v, cut to its WIDTH: 0.");
        // A girl's sisters are told by the number as it is cut: 3, or what no girl has.
        int[] bits = {8, 16, 32};
        for (int width = 0; width < 4; width++) {
            for (int i = 0; i < 3; i++) {
                for (long above : new long[] {1L << bits[i], -1L << bits[i]}) {
                    SisterCount x = Check.of(BARE);
                    Check.putRow(x, 0, width, 0, 0, 0);
                    due(x, 0, "write(0, 1, " + (3 + above) + ")");
                    due(x, width <= i ? 4 : -2, "daughters(0, 0)");
                }
            }
        }
        SisterCount x = Check.of(BARE);
        Check.putRow(x, 0, 3, 0, 0, 0);
        due(x, 0, "write(0, 1, " + Long.MIN_VALUE + ")");
        due(x, -2, "daughters(0, 0)");
        due(x, 0, "write(0, 1, 9)");
        due(x, 10, "daughters(0, 0)");
        says("73", "-2: there is no such SLOT; -6: it has nothing; -7: there is no such number.");
        refuses(BARE, -2, "write(4, 0, 1)", "write(-1, 0, 1)", "write(low, 0, 1)", "write(high, 0, 1)", "write(4, -1, 1)");
        refuses(BARE, -6, "write(0, 0, 1)", "write(3, 0, 1)", "write(0, -1, 1)", "write(0, 60, 1)");
        for (int n : new int[] {0, 3, 60}) {
            for (String i : new String[] {"-1", "low", "high", "60", String.valueOf(n)}) {
                x = Check.of(BARE);
                x.row(1, 1, n);
                refuses(x, -7, "write(1, " + i + ", 1)");
            }
        }
    }

    private static SisterCount twoRows() {
        SisterCount x = Check.of(BARE);
        Check.putRow(x, 0, 0, 0, 1, 0, 0, 4, 0);
        Check.putRow(x, 1, 0, 0, 0, 0, 0, 0, 0, 0, 0, 0);
        x.row(2, 1, 9);
        return x;
    }

    private void paste() {
        says("74", "So many numbers of a SLOT's row, from one on, are put to another one's (or its own), from one on, as they "
            + "were: 0.");
        SisterCount x = twoRows();
        due(x, 0, "paste(0, 0, 1, 3, 6)");
        due(x, 1 + 2 + 5, "daughters(1, 1)");
        due(x, 7, "daughters(0, 1)");
        x = twoRows();
        due(x, 0, "paste(0, 4, 1, 7, 1)");
        due(x, 1 + 1 + 5, "daughters(1, 1)");
        // Its own row, where the two parts lie over one another: upwards and downwards.
        long[] row = {0, 1, 0, 0, 2, 0, 0, 3, 0, 0, 4, 0};
        x = Check.of(BARE);
        Check.putRow(x, 3, 2, row);
        due(x, 0, "paste(3, 0, 3, 3, 9)");
        due(x, 2 + 2 + 3 + 4, "daughters(3, 1)");
        due(x, 3, "sorts(3)");
        x = Check.of(BARE);
        Check.putRow(x, 3, 2, row);
        due(x, 0, "paste(3, 3, 3, 0, 9)");
        due(x, 3 + 4 + 5 + 5, "daughters(3, 1)");
        due(x, 0, "paste(3, 0, 3, 0, 12)");
        due(x, 17, "daughters(3, 1)");
        // None at all, from the very end of a row, or of one of no numbers.
        for (String call : new String[] {"paste(0, 6, 1, 9, 0)", "paste(0, 0, 1, 0, 0)", "paste(1, 9, 1, 9, 0)"}) {
            refuses(twoRows(), 0, call);
        }
        x = twoRows();
        x.row(3, 0, 0);
        refuses(x, 0, "paste(3, 0, 0, 6, 0)");
        // As they were: great numbers of eight bytes and the lowest ones of all.
        x = Check.of(BARE);
        Check.putRow(x, 0, 3, 0, 3 + (1L << 32), 0);
        x.row(1, 3, 60);
        due(x, 0, "paste(0, 0, 1, 57, 3)");
        due(x, 0, "paste(1, 57, 0, 0, 3)");
        due(x, -2, "daughters(0, 0)");
    }

    private void pasteRefusals() {
        says("74", "-2: there is no such SLOT; -6: one has nothing; -8: they are not of one WIDTH;");
        for (String call : new String[] {"paste(4, 0, 0, 0, 1)", "paste(-1, 0, 0, 0, 1)", "paste(0, 0, 4, 0, 1)",
            "paste(0, 0, -1, 0, 1)", "paste(low, 0, 0, 0, 1)", "paste(0, 0, high, 0, 1)", "paste(3, 0, 4, 0, 1)",
            "paste(4, -1, 3, -1, -1)"}) {
            refuses(twoRows(), -2, call);
        }
        for (String call : new String[] {"paste(3, 0, 0, 0, 1)", "paste(0, 0, 3, 0, 1)", "paste(3, 0, 3, 0, 0)",
            "paste(3, -1, 0, 0, 1)", "paste(2, 9, 3, 0, 99)"}) {
            refuses(twoRows(), -6, call);
        }
        for (String call : new String[] {"paste(0, 0, 2, 0, 1)", "paste(2, 0, 0, 0, 1)", "paste(0, 0, 2, 0, 0)",
            "paste(0, 9, 2, 0, 1)", "paste(0, -1, 2, 0, -1)"}) {
            refuses(twoRows(), -8, call);
        }
        says("74", "-7, and nothing happens: some are beyond their rows, or a place or n is below 0.");
        for (String call : new String[] {"paste(0, 0, 1, 0, 7)", "paste(0, 4, 1, 0, 3)", "paste(0, 6, 1, 0, 1)",
            "paste(0, 0, 1, 4, 6)", "paste(0, 3, 1, 9, 1)", "paste(0, 7, 1, 0, 0)", "paste(0, 0, 1, 10, 0)",
            "paste(0, -1, 1, 0, 1)", "paste(0, -1, 1, 0, 0)", "paste(0, 0, 1, -1, 1)", "paste(0, 0, 1, -1, 0)",
            "paste(0, 3, 1, 3, -1)", "paste(0, high, 1, 0, 1)", "paste(0, 0, 1, high, 1)", "paste(0, 0, 1, 0, high)",
            "paste(0, high, 1, high, high)", "paste(0, low, 1, low, low)", "paste(0, 1, 1, 1, high)",
            "paste(1, 3, 1, 4, 6)", "paste(0, 6, 1, 0, low)"}) {
            refuses(twoRows(), -7, call);
        }
    }
}
