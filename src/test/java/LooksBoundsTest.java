/** The boundary cases of promises 7 to 16: each of their sentences that names one has a test here. */
public final class LooksBoundsTest {
    private static final int NO_SUCH = -1, BAD_VALUE = -2, NOT_POSSIBLE = -5, NONE = -6;
    private static final int HEAD = 0, PIECE = 1;
    private static final int LEAST = Integer.MIN_VALUE, GREATEST = Integer.MAX_VALUE;
    private static final int[] NO_KEYS = {-1, 100, LEAST, GREATEST};
    private static final Check check = new Check();

    public static void main(String[] args) {
        rowLetters();
        rowHomeAndHead();
        rowMoved();
        rowLettersOfItsHead();
        rowPieces();
        rowCost();
        rowCells();
        rowNoSuch();
        rowBadWhat();
        letter();
        letterNoSuch();
        piece();
        pieceNoSuch();
        pieceBadWhat();
        page();
        pageNoSuch();
        pageBadWhat();
        slot();
        slotNoneIfEmpty();
        slotNoSuch();
        slotBadWhat();
        countNothing();
        countAllFull();
        countSums();
        countGreatestCost();
        countTheRest();
        countBadWhat();
        key();
        keyAscending();
        keyNoSuch();
        ifPackedHead();
        ifPackedWhat();
        ifPackedOutOfRange();
        ifPackedNotPossible();
        bestHeadEven();
        bestHeadOfSeveral();
        bestHeadNone();
        mostForty();
        mostNewKey();
        mostOfEachKey();
        mostBadKey();
        mostNone();
        mostOfAnOldRow();
        check.finish();
    }

    private static void due(String call, long got, long want) {
        check.due(call, got, want);
    }

    // ---- row

    private static void rowLetters() {
        check.sentence("Promise 7", "0 its letters");
        OverflowRows x = Made.with("0=;1=a", Check.row(2, 40));
        due("row(0, 0)", x.row(0, 0), 0);
        due("row(1, 0)", x.row(1, 0), 1);
        due("row(2, 0)", x.row(2, 0), 40);
    }

    private static void rowHomeAndHead() {
        check.sentence("Promise 7", "1 the page and 2 the slot of its home, 3 the page and 4 the slot of its head");
        OverflowRows x = Made.full();
        check.where(x, 0, 0, 0, 0, 0);
        check.where(x, 19, 9, 1, 9, 1);
        check.where(x, 29, 9, 2, 9, 2);
        check.where(Made.moved(20), 20, 0, 2, 9, 1);
        OverflowRows y = Made.thirty();
        check.where(y, 19, 0, 19, 0, 19);
        check.where(y, 20, 1, 0, 1, 0);
    }

    private static void rowMoved() {
        check.sentence("Promise 7", "5 whether it has moved: there is a note at its home (1 or 0)");
        due("row(20, 5) where it was first", Made.full().row(20, 5), 0);
        OverflowRows x = Made.away(20);
        due("row(20, 5) elsewhere", x.row(20, 5), 1);
        Made.write(x, Check.row(1, 14));
        x.append(20, 3);
        due("row(20, 5) at home again", x.row(20, 5), 0);
        OverflowRows y = Made.away(20);
        y.delete(4);
        y.append(20, 3);
        due("row(20, 5) elsewhere again", y.row(20, 5), 1);
        y.delete(0);
        y.pack();
        due("row(20, 5) when all is packed", y.row(20, 5), 0);
    }

    private static void rowLettersOfItsHead() {
        check.sentence("Promise 7", "6 the letters of its head");
        OverflowRows x = Made.with("0=;1=" + Check.letters(5) + ";2=" + Check.letters(6) + ";3=" + Check.letters(7));
        int[] letters = {0, 5, 6, 6};
        for (int key = 0; key < 4; key++) {
            due("row(" + key + ", 6)", x.row(key, 6), letters[key]);
        }
        x.set(HEAD, 16);
        due("row(3, 6) as it was written", x.row(3, 6), 6);
        x.append(3, 0);
        due("row(3, 6) written again", x.row(3, 6), 8);
        x.set(HEAD, 0);
        Made.write(x, Check.row(3, 8));
        due("row(3, 6) without letters", x.row(3, 6), 0);
    }

    private static void rowPieces() {
        check.sentence("Promise 7", "7 its pieces");
        OverflowRows x = new OverflowRows();
        int[][] lettersAndPieces = {{0, 0}, {6, 0}, {7, 1}, {14, 1}, {15, 2}, {38, 4}, {39, 5}, {40, 5}};
        for (int[] pair : lettersAndPieces) {
            Made.write(x, Check.row(1, pair[0]));
            due("row(1, 7) with " + pair[0] + " letters", x.row(1, 7), pair[1]);
        }
        OverflowRows y = Made.withSettings(0, 1);
        Made.write(y, Check.row(1, 40));
        due("row(1, 7) of the most pieces", y.row(1, 7), 40);
    }

    private static void rowCost() {
        check.sentence("Promise 7", "8 what reading it costs");
        OverflowRows x = Made.full();
        due("row(0, 8)", x.row(0, 8), 1);
        due("row(20, 8) of a head that has moved", Made.moved(20).row(20, 8), 2);
        OverflowRows y = Made.withSettings(0, 1);
        Made.write(y, Check.row(1, 19));
        due("row(1, 8) that fills a page", y.row(1, 8), 1);
        due("free", y.page(0, 0), 0);
        Made.write(y, Check.row(2, 40));
        due("row(2, 8) on three pages", y.row(2, 8), 3);
        Made.write(y, Check.row(1, 0));
        // The head stays on page 1; 19 pieces come to page 0, 19 to page 1 and two to page 2.
        Made.write(y, Check.row(2, 40));
        due("row(2, 8) from its head to page 0, back, and on", y.row(2, 8), 4);
        check.where(y, 2, 1, 0, 1, 0);
        due("piece(2, 0, 0)", y.piece(2, 0, 0), 0);
        due("piece(2, 39, 0)", y.piece(2, 39, 0), 2);
    }

    private static void rowCells() {
        check.sentence("Promise 7", "9 the cells that it takes, with its note");
        OverflowRows x = Made.with("1=;2=" + Check.letters(6) + ";3=" + Check.letters(7), Check.row(4, 40));
        int[] cells = {2, 8, 10, 47};
        for (int key = 1; key <= 4; key++) {
            due("row(" + key + ", 9)", x.row(key, 9), cells[key - 1]);
        }
        due("row(20, 9) with a note", Made.moved(20).row(20, 9), 6);
        OverflowRows y = Made.away(20);
        Made.write(y, Check.row(1, 14));
        y.append(20, 3);
        due("row(20, 9) without the note again", y.row(20, 9), 6);
    }

    private static void rowNoSuch() {
        check.sentence("Promise 7", "NO_SUCH if there is no such row");
        OverflowRows x = Made.with("0=;99=;50=");
        for (int key : new int[] {-1, 1, 49, 51, 98, 100, LEAST, GREATEST}) {
            for (int what = 0; what < 10; what++) {
                due("row(" + key + ", " + what + ")", x.row(key, what), NO_SUCH);
            }
        }
        due("row(0, 0)", x.row(0, 0), 0);
        due("row(99, 0)", x.row(99, 0), 0);
        x.delete(99);
        due("row(99, 0), deleted", x.row(99, 0), NO_SUCH);
        due("row(0, 0) of a new object", new OverflowRows().row(0, 0), NO_SUCH);
    }

    private static void rowBadWhat() {
        check.sentence("Promise 7", "BAD_VALUE if what is out of range");
        OverflowRows x = Made.with("5=abcdefgh");
        for (int what : new int[] {-1, 10, LEAST, GREATEST}) {
            due("row(5, " + what + ")", x.row(5, what), BAD_VALUE);
        }
        due("row(5, 0)", x.row(5, 0), 8);
        due("row(5, 9)", x.row(5, 9), 11);
    }

    // ---- letter, piece

    private static void letter() {
        check.sentence("Promise 8", "Returns the letter (0 to 25)");
        OverflowRows x = Made.with("1=abcdefghijklmnopqrstuvwxyz");
        for (int place = 0; place < 26; place++) {
            due("letter(1, " + place + ")", x.letter(1, place), place);
        }
    }

    private static void letterNoSuch() {
        check.sentence("Promise 8", "NO_SUCH if there is no such row or place");
        OverflowRows x = Made.with("0=;1=a;99=ab", Check.row(40, 40));
        for (int key : new int[] {-1, 2, 98, 100, LEAST, GREATEST}) {
            due("letter(" + key + ", 0)", x.letter(key, 0), NO_SUCH);
        }
        int[][] keysAndLetters = {{0, 0}, {1, 1}, {99, 2}, {40, 40}};
        for (int[] pair : keysAndLetters) {
            for (int place : new int[] {-1, pair[1], pair[1] + 1, LEAST, GREATEST}) {
                due("letter(" + pair[0] + ", " + place + ")", x.letter(pair[0], place), NO_SUCH);
            }
        }
        due("letter(40, 39)", x.letter(40, 39), 13);
        due("letter(99, 1)", x.letter(99, 1), 1);
        Made.write(x, "40=zy");
        due("letter(40, 2) of a text that was longer", x.letter(40, 2), NO_SUCH);
        x.undo();
        due("letter(40, 39) after undo()", x.letter(40, 39), 13);
    }

    private static void piece() {
        check.sentence("Promise 9", "0 its page, 1 its slot, 2 its letters");
        OverflowRows x = Made.with("1=abcdef", Check.row(2, 31));
        check.pieces(x, 1);
        check.pieces(x, 2, new int[] {0, 2, 8}, new int[] {0, 3, 8}, new int[] {1, 0, 8}, new int[] {0, 4, 1});
        x.set(PIECE, 1);
        check.pieces(x, 2, new int[] {0, 2, 8}, new int[] {0, 3, 8}, new int[] {1, 0, 8}, new int[] {0, 4, 1});
    }

    private static void pieceNoSuch() {
        check.sentence("Promise 9", "NO_SUCH if there is no such row or piece");
        OverflowRows x = Made.with("0=;1=" + Check.letters(6) + ";2=" + Check.letters(7) + ";3=" + Check.letters(15));
        for (int key : new int[] {-1, 4, 99, 100, LEAST, GREATEST}) {
            due("piece(" + key + ", 0, 0)", x.piece(key, 0, 0), NO_SUCH);
        }
        int[] pieces = {0, 0, 1, 2};
        for (int key = 0; key < 4; key++) {
            for (int piece : new int[] {-1, pieces[key], pieces[key] + 1, LEAST, GREATEST}) {
                due("piece(" + key + ", " + piece + ", 2)", x.piece(key, piece, 2), NO_SUCH);
            }
        }
        due("piece(2, 0, 2)", x.piece(2, 0, 2), 1);
        due("piece(3, 1, 2)", x.piece(3, 1, 2), 1);
        Made.write(x, Check.row(3, 14));
        due("piece(3, 1, 2) of a text that was longer", x.piece(3, 1, 2), NO_SUCH);
    }

    private static void pieceBadWhat() {
        check.sentence("Promise 9", "BAD_VALUE if what is out of range");
        OverflowRows x = Made.with(Check.row(1, 15));
        for (int what : new int[] {-1, 3, LEAST, GREATEST}) {
            due("piece(1, 0, " + what + ")", x.piece(1, 0, what), BAD_VALUE);
            due("piece(1, 1, " + what + ")", x.piece(1, 1, what), BAD_VALUE);
        }
    }

    // ---- page, slot

    private static void page() {
        check.sentence("Promise 10", "0 its free room, 1 its slots, 2 heads, 3 pieces, 4 notes, 5 its empty slots");
        OverflowRows x = Made.moved(20);
        x.delete(0);
        x.set(HEAD, 0);
        Made.write(x, Check.row(40, 9));
        // Slot 0 has the head of row 40, slot 1 that of row 1, slot 2 a note, slots 3 and 4 pieces.
        check.page(x, 0, 40 - 2 - 18 - 1 - 9 - 2, 5, 2, 2, 1, 0);
        x.delete(1);
        check.page(x, 0, 26, 5, 1, 2, 1, 1);
        check.page(new OverflowRows(), 0, 40, 0, 0, 0, 0, 0);
        check.page(Made.full(), 9, 0, 3, 3, 0, 0, 0);
        check.page(Made.thirty(), 0, 0, 20, 20, 0, 0, 0);
    }

    private static void pageNoSuch() {
        check.sentence("Promise 10", "NO_SUCH if there is no such page");
        OverflowRows x = Made.full();
        for (int page : new int[] {-1, 10, LEAST, GREATEST}) {
            for (int what = 0; what < 6; what++) {
                due("page(" + page + ", " + what + ")", x.page(page, what), NO_SUCH);
            }
        }
        due("page(0, 1)", x.page(0, 1), 3);
        due("page(9, 1)", x.page(9, 1), 3);
    }

    private static void pageBadWhat() {
        check.sentence("Promise 10", "BAD_VALUE if what is out of range");
        for (int what : new int[] {-1, 6, LEAST, GREATEST}) {
            due("page(0, " + what + ")", new OverflowRows().page(0, what), BAD_VALUE);
            due("page(9, " + what + ")", Made.full().page(9, what), BAD_VALUE);
        }
    }

    private static void slot() {
        check.sentence("Promise 11", "0 what is there: 0 nothing, 1 a head, 2 a piece, 3 a note; "
                + "1 the key of its row (NONE if it is empty), 2 the cells that it takes");
        OverflowRows x = Made.moved(20);
        x.delete(0);
        x.set(HEAD, 3);
        x.append(20, 3);
        check.slot(x, 0, 0, 2, 20, 2);
        check.slot(x, 0, 1, 1, 1, 18);
        check.slot(x, 0, 2, 3, 20, 1);
        check.slot(x, 9, 1, 1, 20, 5);
        Made.write(x, "0=;99=");
        check.slot(x, 0, 3, 1, 0, 2);
        check.slot(x, 0, 4, 1, 99, 2);
    }

    private static void slotNoneIfEmpty() {
        check.sentence("Promise 11", "(NONE if it is empty)");
        OverflowRows x = Made.with("0=;5=abcdefgh;7=");
        x.delete(0);
        x.delete(5);
        for (int slot = 0; slot < 3; slot++) {
            check.slot(x, 0, slot, 0, NONE, 0);
        }
        check.slot(x, 0, 3, 1, 7, 2);
        Made.write(x, "0=");
        check.slot(x, 0, 0, 1, 0, 2);
    }

    private static void slotNoSuch() {
        check.sentence("Promise 11", "NO_SUCH if there is no such page or slot");
        OverflowRows x = Made.full();
        for (int page : new int[] {-1, 10, LEAST, GREATEST}) {
            due("slot(" + page + ", 0, 0)", x.slot(page, 0, 0), NO_SUCH);
        }
        for (int slot : new int[] {-1, 3, 4, 39, 40, LEAST, GREATEST}) {
            due("slot(0, " + slot + ", 0)", x.slot(0, slot, 0), NO_SUCH);
            due("slot(9, " + slot + ", 0)", x.slot(9, slot, 0), NO_SUCH);
        }
        due("slot(0, 2, 0)", x.slot(0, 2, 0), 1);
        due("slot(9, 2, 0)", x.slot(9, 2, 0), 1);
        due("slot(0, 0, 0) of a page without slots", new OverflowRows().slot(0, 0, 0), NO_SUCH);
        x.delete(20);
        due("slot(0, 2, 0) behind the last thing", x.slot(0, 2, 0), NO_SUCH);
        OverflowRows y = Made.thirty();
        due("slot(0, 19, 1)", y.slot(0, 19, 1), 19);
        due("slot(0, 20, 1)", y.slot(0, 20, 1), NO_SUCH);
    }

    private static void slotBadWhat() {
        check.sentence("Promise 11", "BAD_VALUE if what is out of range");
        OverflowRows x = Made.with("0=;1=abcdefg");
        x.delete(0);
        for (int what : new int[] {-1, 3, LEAST, GREATEST}) {
            for (int slot = 0; slot < 3; slot++) {
                due("slot(0, " + slot + ", " + what + ")", x.slot(0, slot, what), BAD_VALUE);
            }
        }
    }

    // ---- count, key

    private static void countNothing() {
        check.sentence("Promise 12", "7 the greatest cost of a row (NONE without rows)");
        check.counts(new OverflowRows(), 0, 0, 0, 0, 400, 0, 0, NONE, 6, 8, 0, 0);
        OverflowRows x = Made.with("1=");
        check.counts(x, 1, 1, 0, 0, 398, 1, 0, 1, 6, 8, 0, 1);
        x.delete(1);
        check.counts(x, 0, 0, 0, 0, 400, 0, 0, NONE, 6, 8, 0, 2);
    }

    private static void countAllFull() {
        check.sentence("Promise 12", "0 rows, 1 pages with things, 2 notes, 3 pieces, 4 the free room of all pages");
        OverflowRows x = Made.full();
        Check.put(x, Check.letters(80));
        check.counts(x, 30, 10, 0, 0, 0, 30, 340, 1, 16, 8, 80, 6);
        due("put() of one more", x.put('a'), -4);
        due("count(10)", x.count(10), 80);
        x.set(HEAD, 0);
        x.set(PIECE, 1);
        check.counts(x, 30, 10, 0, 0, 0, 30, 340, 1, 0, 1, 80, 6);
    }

    private static void countSums() {
        check.sentence("Promise 12", "5 the sum of what reading each row costs, 6 letters of all rows");
        OverflowRows x = Made.with("1=;2=" + Check.letters(30), Check.row(3, 40), Check.row(4, 7));
        int costs = 0;
        int greatest = 0;
        for (int key = 1; key <= 4; key++) {
            costs += x.row(key, 8);
            greatest = Math.max(greatest, x.row(key, 8));
        }
        check.counts(x, 4, 3, 0, 3 + 5 + 1, 400 - 2 - 35 - 47 - 10, costs, 77, greatest);
        // Row 3 goes to pages 1, 2 and 0; row 4 to pages 2 and 1.
        due("count(5)", x.count(5), 1 + 1 + 3 + 2);
        OverflowRows y = Made.away(20);
        check.counts(y, 30, 10, 1, 0, 3, 31, 340 + 1 - 5, 2);
    }

    private static void countGreatestCost() {
        check.sentence("Promise 12", "7 the greatest cost of a row");
        OverflowRows x = Made.with("50=");
        due("count(7) of one row", x.count(7), 1);
        Made.write(x, Check.row(1, 40));
        due("count(7) of the first one, on pages 0, 1 and 0", x.count(7), 3);
        Made.write(x, Check.row(99, 20));
        due("row(99, 8)", x.row(99, 8), 1);
        due("count(7) with a cheaper one behind", x.count(7), 3);
        x.delete(1);
        due("count(7) without the dear one", x.count(7), 1);
        OverflowRows y = Made.moved(20);
        due("count(7) with a head that has moved", y.count(7), 2);
        y.delete(20);
        due("count(7) without it", y.count(7), 1);
    }

    private static void countTheRest() {
        check.sentence("Promise 12", "8 HEAD, 9 PIECE, 10 the length of the pad, 11 how many changes can be undone");
        OverflowRows x = new OverflowRows();
        x.set(HEAD, 16);
        x.set(PIECE, 1);
        due("HEAD", x.count(8), 16);
        due("PIECE", x.count(9), 1);
        due("changes", x.count(11), 2);
        for (int length = 1; length <= 80; length++) {
            x.put('a');
            due("length of the pad", x.count(10), length);
        }
        due("changes after put()", x.count(11), 2);
        x.undo();
        due("PIECE after undo()", x.count(9), 8);
        due("changes after undo()", x.count(11), 1);
        due("length of the pad after undo()", x.count(10), 80);
        for (int change = 2; change <= 8; change++) {
            x.set(HEAD, change);
            due("HEAD", x.count(8), change);
            due("changes", x.count(11), Math.min(change, 6));
        }
    }

    private static void countBadWhat() {
        check.sentence("Promise 12", "BAD_VALUE if what is out of range");
        for (int what : new int[] {-1, 12, LEAST, GREATEST}) {
            due("count(" + what + ") of a new object", new OverflowRows().count(what), BAD_VALUE);
            due("count(" + what + ")", Made.full().count(what), BAD_VALUE);
        }
    }

    private static void key() {
        check.sentence("Promise 13", "0 for the lowest one");
        OverflowRows x = Made.with("99=;0=;10=;9=");
        int[] keys = {0, 9, 10, 99};
        for (int place = 0; place < 4; place++) {
            due("key(" + place + ")", x.key(place), keys[place]);
        }
        OverflowRows y = new OverflowRows();
        for (int key = 99; key >= 70; key--) {
            Made.write(y, key + "=");
        }
        for (int place = 0; place < 30; place++) {
            due("key(" + place + ") of thirty", y.key(place), 70 + place);
        }
    }

    private static void keyAscending() {
        check.sentence("Promise 13", "Returns the key of a row, by ascending keys.");
        OverflowRows x = Made.with("50=", "7=a", "93=", "8=abc");
        keys(x, 7, 8, 50, 93);
        x.delete(8);
        keys(x, 7, 50, 93);
        Made.write(x, "70=;9=");
        keys(x, 7, 9, 50, 70, 93);
        Made.write(x, Check.row(50, 30));
        keys(x, 7, 9, 50, 70, 93);
        x.pack();
        keys(x, 7, 9, 50, 70, 93);
        x.undo();
        x.undo();
        x.undo();
        keys(x, 7, 50, 93);
        x.undo();
        keys(x, 7, 8, 50, 93);
    }

    private static void keys(OverflowRows x, int... keys) {
        for (int place = 0; place < keys.length; place++) {
            due("key(" + place + ") of " + keys.length, x.key(place), keys[place]);
        }
        due("key(" + keys.length + ")", x.key(keys.length), NO_SUCH);
    }

    private static void keyNoSuch() {
        check.sentence("Promise 13", "NO_SUCH if there are not so many rows");
        OverflowRows x = new OverflowRows();
        for (int place : new int[] {-1, 0, 1, LEAST, GREATEST}) {
            due("key(" + place + ") without rows", x.key(place), NO_SUCH);
        }
        Made.write(x, "99=");
        due("key(0)", x.key(0), 99);
        for (int place : new int[] {-1, 1, 99, LEAST, GREATEST}) {
            due("key(" + place + ")", x.key(place), NO_SUCH);
        }
        OverflowRows y = Made.thirty();
        due("key(29)", y.key(29), 29);
        due("key(30)", y.key(30), NO_SUCH);
        y.delete(3);
        due("key(29) of 29 rows", y.key(29), NO_SUCH);
    }

    // ---- what if

    private static void ifPackedHead() {
        check.sentence("Promise 14", "`head`: 0 to 16");
        OverflowRows x = Made.with(Check.row(1, 17));
        for (int head : new int[] {-1, 17, LEAST, GREATEST}) {
            due("ifPacked(" + head + ", 0)", x.ifPacked(head, 0), BAD_VALUE);
        }
        for (int head = 0; head <= 16; head++) {
            due("ifPacked(" + head + ", 2)", x.ifPacked(head, 2), (17 - head + 7) / 8);
        }
        due("HEAD", x.count(8), 6);
    }

    private static void ifPackedWhat() {
        check.sentence("Promise 14", "0 the sum of what reading each row costs, 1 pages with things, 2 pieces");
        OverflowRows x = Made.with(Check.row(1, 31), Check.row(2, 31));
        x.set(PIECE, 12);
        for (int what : new int[] {-1, 3, LEAST, GREATEST}) {
            due("ifPacked(6, " + what + ")", x.ifPacked(6, what), BAD_VALUE);
        }
        // A head of 9 cells and two pieces of 13 fill 35 cells.
        due("ifPacked(7, 0)", x.ifPacked(7, 0), 2);
        due("ifPacked(7, 1)", x.ifPacked(7, 1), 2);
        due("ifPacked(7, 2)", x.ifPacked(7, 2), 4);
        OverflowRows y = new OverflowRows();
        for (int what = 0; what < 3; what++) {
            due("ifPacked(0, " + what + ") without rows", y.ifPacked(0, what), 0);
            due("ifPacked(16, " + what + ") without rows", y.ifPacked(16, what), 0);
        }
        due("ifPacked(16, 1) of ten full pages", Made.full().ifPacked(16, 1), 10);
        due("ifPacked(16, 0) of ten full pages", Made.full().ifPacked(16, 0), 30);
    }

    private static void ifPackedOutOfRange() {
        check.sentence("Promise 14", "BAD_VALUE if an argument is out of range");
        for (OverflowRows x : new OverflowRows[] {new OverflowRows(), Made.full(), Made.stuffed()}) {
            for (int bad : new int[] {-1, LEAST, GREATEST}) {
                due("ifPacked(" + bad + ", 0)", x.ifPacked(bad, 0), BAD_VALUE);
                due("ifPacked(16, " + bad + ")", x.ifPacked(16, bad), BAD_VALUE);
                due("ifPacked(" + bad + ", " + bad + ")", x.ifPacked(bad, bad), BAD_VALUE);
            }
            due("ifPacked(17, 2)", x.ifPacked(17, 2), BAD_VALUE);
            due("ifPacked(0, 3)", x.ifPacked(0, 3), BAD_VALUE);
        }
    }

    private static void ifPackedNotPossible() {
        check.sentence("Promise 14", "NOT_POSSIBLE if a row could not be written so");
        OverflowRows x = new OverflowRows();
        for (int key = 0; key < 5; key++) {
            Made.write(x, Check.row(key, 40));
        }
        x.set(PIECE, 1);
        for (int what = 0; what < 3; what++) {
            due("ifPacked(0, " + what + ") of 410 cells", x.ifPacked(0, what), NOT_POSSIBLE);
            due("ifPacked(1, " + what + ") of 405 cells", x.ifPacked(1, what), NOT_POSSIBLE);
        }
        due("ifPacked(2, 2) of 400 cells", x.ifPacked(2, 2), 190);
        OverflowRows y = Made.full();
        due("ifPacked(16, 2) of 400 cells", y.ifPacked(16, 2), 0);
        due("ifPacked(15, 2) of 420 cells", y.ifPacked(15, 2), NOT_POSSIBLE);
    }

    private static void bestHeadEven() {
        check.sentence("Promise 15", "Finds the HEAD, of 0, 2, 4 and so on to 16, with which packing all anew "
                + "brings the least sum of what reading each row costs");
        OverflowRows x = Made.with(Check.row(0, 27) + ";" + Check.row(1, 33), Check.row(2, 27));
        // With a HEAD of 9, rows 0 and 2 take 32 cells on pages 0 and 2, their last pieces on page 0; row 1 takes 38.
        due("ifPacked(9, 0)", x.ifPacked(9, 0), 4);
        due("ifPacked(4, 0)", x.ifPacked(4, 0), 5);
        due("bestHead() where 9 would be the best", x.bestHead(), 4);
        due("bestHead() where 16 can be alone", onlySixteen().bestHead(), 16);
        OverflowRows y = Made.with("1=");
        due("bestHead() where all are the same", y.bestHead(), 0);
    }

    /** Six rows of 40 letters with PIECE 1: 396 cells with HEAD 16, two a row more with 15. */
    private static OverflowRows onlySixteen() {
        OverflowRows x = Made.withSettings(16, 12);
        for (int key = 0; key < 6; key++) {
            Made.write(x, Check.row(key, 40));
        }
        x.set(PIECE, 1);
        due("ifPacked(16, 2)", x.ifPacked(16, 2), 6 * 24);
        due("ifPacked(15, 2)", x.ifPacked(15, 2), NOT_POSSIBLE);
        return x;
    }

    private static void bestHeadOfSeveral() {
        check.sentence("Promise 15", "of several the least");
        OverflowRows x = Made.withSettings(6, 12);
        Made.write(x, Check.row(1, 30));
        Made.write(x, Check.row(2, 30));
        due("ifPacked(4, 0)", x.ifPacked(4, 0), 3);
        due("ifPacked(6, 0)", x.ifPacked(6, 0), 2);
        due("ifPacked(8, 0)", x.ifPacked(8, 0), 2);
        due("bestHead()", x.bestHead(), 6);
        x.set(HEAD, 8);
        due("bestHead() with HEAD 8", x.bestHead(), 6);
    }

    private static void bestHeadNone() {
        check.sentence("Promise 15", "NONE if there are no rows, or none can be");
        OverflowRows x = new OverflowRows();
        due("bestHead() without rows", x.bestHead(), NONE);
        Made.write(x, "1=");
        due("bestHead() with a row", x.bestHead(), 0);
        x.delete(1);
        due("bestHead() without rows again", x.bestHead(), NONE);
        OverflowRows y = Made.withSettings(16, 12);
        for (int key = 0; key < 7; key++) {
            Made.write(y, Check.row(key, 40));
        }
        y.set(PIECE, 1);
        due("ifPacked(16, 0) of 462 cells", y.ifPacked(16, 0), NOT_POSSIBLE);
        due("bestHead() when none can be", y.bestHead(), NONE);
        int[] letters = {1, 6, 39, 17, 32, 8, 0, 19, 26, 14, 15, 31, 25, 24, 13, 32, 30};
        OverflowRows z = Made.withSettings(13, 8);
        for (int key = 0; key < letters.length; key++) {
            Made.write(z, Check.row(key, letters[key]));
        }
        due("ifPacked(13, 0)", z.ifPacked(13, 0), 29);
        due("bestHead() when 13 can be alone", z.bestHead(), NONE);
    }

    private static void mostForty() {
        check.sentence("Promise 16", "if it was written with as many letters as can be, but 40 at most");
        OverflowRows x = new OverflowRows();
        due("most(0) where much more is free", x.most(0), 40);
        x.set(HEAD, 0);
        x.set(PIECE, 1);
        due("most(0) with 82 cells", x.most(0), 40);
        OverflowRows y = Made.full();
        due("most(5) of its own 16", y.most(5), 16);
        y.delete(4);
        due("most(5) with 18 more", y.most(5), 16 + 8 + 8);
        y.set(PIECE, 12);
        due("most(5) with pieces of 12", y.most(5), 16 + 12 + 4);
        y.delete(22);
        due("most(5) with 4 more on the same page", y.most(5), 16 + 12 + 8);
        y.delete(7);
        due("most(5) with 18 on another page", y.most(5), 40);
    }

    private static void mostNewKey() {
        check.sentence("Promise 16", "(of a new key, too)");
        OverflowRows x = Made.twenty();
        due("most(20) of a head for 4 free cells", x.most(20), 2);
        due("write() of 3", Check.write(x, Check.row(20, 3)), 0);
        due("write() of 2", Check.write(x, Check.row(20, 2)), 1);
        x.set(HEAD, 1);
        // The head of 3 leaves 1 cell on page 1; pieces of 3 letters are for the other pages.
        due("most(21) with HEAD 1, PIECE 8", x.most(21), 1 + 3);
        x.set(PIECE, 3);
        due("most(21) with HEAD 1, PIECE 3", x.most(21), 1 + 8 * 3);
        due("write() of one more", Check.write(x, Check.row(21, 26)), 0);
        due("write() of so many", Check.write(x, Check.row(21, 25)), 1);
        due("free", x.count(4), 1);
    }

    private static void mostOfEachKey() {
        check.sentence("Promise 16", "`key`: 0 to 99");
        OverflowRows x = Made.with("0=", "50=a", "99=abc");
        OverflowRows y = Made.full();
        for (int key = 0; key < 100; key++) {
            due("most(" + key + ")", x.most(key), 40);
            due("most(" + key + ") when all is full", y.most(key), key < 20 ? 16 : key < 30 ? 2 : NONE);
        }
    }

    private static void mostBadKey() {
        check.sentence("Promise 16", "BAD_VALUE if key is out of range");
        for (int key : NO_KEYS) {
            due("most(" + key + ") of a new object", new OverflowRows().most(key), BAD_VALUE);
            due("most(" + key + ") when all is full", Made.full().most(key), BAD_VALUE);
        }
        due("most(0)", new OverflowRows().most(0), 40);
        due("most(99)", new OverflowRows().most(99), 40);
    }

    private static void mostNone() {
        check.sentence("Promise 16", "NONE if it cannot be written with any");
        OverflowRows x = Made.twenty();
        for (int key = 20; key < 29; key++) {
            Made.write(x, Check.row(key, 2));
        }
        due("most(29) with 4 free cells", x.most(29), 2);
        x.append(19, 1);
        due("most(29) with 2 free cells, none for letters", x.most(29), 0);
        x.append(19, 1);
        due("most(29) with 1 free cell", x.most(29), NONE);
        due("write() of it without letters", Check.write(x, "29="), 0);
        x.append(19, 1);
        due("most(29) with no free cell", x.most(29), NONE);
        due("most(28), which is there", x.most(28), 2);
        OverflowRows y = Made.thirty();
        due("most(30) with 30 rows", y.most(30), NONE);
        due("most(99) with 30 rows", y.most(99), NONE);
        due("most(29) of an old one", y.most(29), 40);
        y.delete(0);
        due("most(30) with 29 rows", y.most(30), 40);
    }

    private static void mostOfAnOldRow() {
        check.sentence("Promise 16", "Returns the greatest number of letters with which it can be written");
        OverflowRows x = Made.stuffed();
        due("most(0), fewer than it has", x.most(0) < x.row(0, 0) ? 1 : 0, 1);
        int most = x.most(0);
        due("write() of one more", Check.write(x, Check.row(0, most + 1)), 0);
        due("write() of so many", Check.write(x, Check.row(0, most)), 1);
        OverflowRows y = Made.away(20);
        // On page 9 it has 5 cells; page 0 has 3 and its note.
        due("most(20) of a head that has moved", y.most(20), 3);
        Made.write(y, Check.row(1, 14));
        due("most(20) of a head that could come home", y.most(20), 4);
        y.set(HEAD, 4);
        due("most(20) with a piece then where it was", y.most(20), 4 + 4);
    }
}
