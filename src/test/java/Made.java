/** Objects that several tests begin with. */
final class Made {
    private Made() {
    }

    static OverflowRows with(String... texts) {
        OverflowRows x = new OverflowRows();
        for (String text : texts) {
            write(x, text);
        }
        return x;
    }

    /** Writes rows that all can be written; a test that begins without them would test something else. */
    static void write(OverflowRows x, String text) {
        int written = Check.write(x, text);
        if (written != text.split(";").length) {
            throw new IllegalStateException("write() of " + text + " answered " + written);
        }
    }

    static OverflowRows withSettings(int head, int piece) {
        OverflowRows x = new OverflowRows();
        x.set(OverflowRows.HEAD, head);
        x.set(OverflowRows.PIECE, piece);
        return x;
    }

    /** Thirty empty rows, keys 0 to 29: twenty on page 0, ten on page 1. */
    static OverflowRows thirty() {
        OverflowRows x = new OverflowRows();
        for (int key = 0; key < 30; key++) {
            write(x, key + "=");
        }
        return x;
    }

    /** Twenty rows of 16 letters, 0 to 19, two on each page, which leave 4 cells each. */
    static OverflowRows twenty() {
        OverflowRows x = new OverflowRows();
        x.set(OverflowRows.HEAD, 16);
        for (int key = 0; key < 20; key++) {
            write(x, Check.row(key, 16));
        }
        return x;
    }

    /** No cell is free: to the twenty come ten rows of 2 letters, 20 to 29, one on each page. */
    static OverflowRows full() {
        OverflowRows x = twenty();
        for (int key = 20; key < 30; key++) {
            write(x, Check.row(key, 2));
        }
        return x;
    }

    /**
     * The full one without row 19, where the head of a row from 20 to 28 has moved to (9, 1), with 3 letters.
     * Free are 3 cells on its home's page and 13 on page 9.
     */
    static OverflowRows moved(int key) {
        OverflowRows x = full();
        x.delete(19);
        x.append(key, 2);
        return x;
    }

    /** The moved one, but row 19 is there again, in (9, 3): 3 cells are free on the home's page, no others. */
    static OverflowRows away(int key) {
        OverflowRows x = moved(key);
        write(x, Check.row(19, 11));
        return x;
    }

    /**
     * Page 0 is full: the head (4 cells) and the piece (7) of row 1 in its slots 0 and 1, the heads of rows 2 (18)
     * and 3 (11) in slots 2 and 3. HEAD is 16, PIECE 12.
     */
    static OverflowRows tight() {
        OverflowRows x = withSettings(2, 12);
        write(x, Check.row(1, 8));
        x.set(OverflowRows.HEAD, 16);
        write(x, Check.row(2, 16));
        write(x, Check.row(3, 9));
        return x;
    }

    /**
     * Rows 0 to 6 of 40 letters and row 7 of 39 take 375 cells; with HEAD and PIECE, which are 0 and 1 now,
     * one of them would take 82 or 80.
     */
    static OverflowRows stuffed() {
        OverflowRows x = new OverflowRows();
        for (int key = 0; key < 7; key++) {
            write(x, Check.row(key, 40));
        }
        write(x, Check.row(7, 39));
        x.set(OverflowRows.HEAD, 0);
        x.set(OverflowRows.PIECE, 1);
        return x;
    }
}
