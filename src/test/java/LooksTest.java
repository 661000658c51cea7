/** Promises 7 to 16: what there is, and what if. */
public final class LooksTest {
    private static final int NO_SUCH = -1, BAD_VALUE = -2, NOT_POSSIBLE = -5, NONE = -6;
    private static final Check check = new Check();

    public static void main(String[] args) {
        promise7();
        promise7Costs();
        promise8();
        promise9();
        promises10And11();
        promise12();
        promise13();
        promise14();
        promise15();
        promise16();
        check.finish();
    }

    private static void due(String call, long got, long want) {
        check.due(call, got, want);
    }

    /** Row 3 is at home in (0, 2), its head of 3 letters is in (1, 1), and a piece is in (0, 3). */
    private static OverflowRows moved() {
        OverflowRows x = new OverflowRows();
        x.set(0, 16);
        Check.write(x, Check.row(1, 16));
        Check.write(x, Check.row(2, 16));
        Check.write(x, Check.row(3, 2) + ";" + Check.row(4, 16));
        x.append(3, 2);
        x.set(0, 3);
        x.append(3, 3);
        return x;
    }

    private static void promise7() {
        OverflowRows x = new OverflowRows();
        Check.write(x, "5=abc;7=" + Check.letters(20) + ";8=");
        check.row(x, 5, 3, 0, 0, 0, 0, 0, 3, 0, 1, 5);
        check.row(x, 7, 20, 0, 1, 0, 1, 0, 6, 2, 1, 24);
        check.row(x, 8, 0, 0, 4, 0, 4, 0, 0, 0, 1, 2);
        due("row: no row first", x.row(6, 99), NO_SUCH);
        due("row: key -1", x.row(-1, 0), NO_SUCH);
        due("row: key 100", x.row(100, 0), NO_SUCH);
        due("row: great key", x.row(Integer.MAX_VALUE, 0), NO_SUCH);
        due("row: small key", x.row(Integer.MIN_VALUE, 0), NO_SUCH);
        due("row: what -1", x.row(5, -1), BAD_VALUE);
        due("row: what 10", x.row(5, 10), BAD_VALUE);
        due("row: nothing is changed", x.count(11), 1);
    }

    private static void promise7Costs() {
        check.row(moved(), 3, 4, 0, 2, 1, 1, 1, 3, 1, 3, 8);
        OverflowRows x = new OverflowRows();
        x.set(0, 16);
        x.set(1, 1);
        Check.write(x, Check.row(0, 40));
        check.row(x, 0, 40, 0, 0, 0, 0, 0, 16, 24, 2, 66);
        Check.write(x, Check.row(2, 12));
        check.row(x, 2, 12, 1, 13, 1, 13, 0, 12, 0, 1, 14);
        due("row: greatest cost, of the first", x.count(7), 2);
        OverflowRows y = new OverflowRows();
        Check.write(y, Check.row(1, 38) + ";" + Check.row(2, 30));
        // 8 + 3 * 9 = 35 on page 0; its 8 letters on page 1; the head of 2 on page 1, too.
        check.row(y, 1, 38, 0, 0, 0, 0, 0, 6, 4, 2, 44);
        check.row(y, 2, 30, 1, 1, 1, 1, 0, 6, 3, 2, 35);
        Check.write(y, "1=");
        Check.write(y, Check.row(2, 40));
        // The old row 2 goes first; page 0 has room for four pieces of 9 cells.
        check.row(y, 2, 40, 1, 1, 1, 1, 0, 6, 5, 3, 47);
        due("row: greatest cost", y.count(7), 3);
    }

    private static void promise8() {
        OverflowRows x = new OverflowRows();
        Check.write(x, "2=hello;3=;4=" + Check.letters(40));
        int[] hello = {7, 4, 11, 11, 14};
        for (int place = 0; place < 5; place++) {
            due("letter(2, " + place + ")", x.letter(2, place), hello[place]);
        }
        for (int place = 0; place < 40; place++) {
            due("letter(4, " + place + ")", x.letter(4, place), place % 26);
        }
        due("letter: behind", x.letter(2, 5), NO_SUCH);
        due("letter: before", x.letter(2, -1), NO_SUCH);
        due("letter: far", x.letter(2, Integer.MAX_VALUE), NO_SUCH);
        due("letter: of none", x.letter(3, 0), NO_SUCH);
        due("letter: 40", x.letter(4, 40), NO_SUCH);
        due("letter: no row", x.letter(5, 0), NO_SUCH);
        due("letter: key -1", x.letter(-1, 0), NO_SUCH);
        due("letter: key 100", x.letter(100, 0), NO_SUCH);
        Check.write(x, "2=ab");
        due("letter: of a shorter text", x.letter(2, 2), NO_SUCH);
        due("letter: of a new text", x.letter(2, 1), 1);
    }

    private static void promise9() {
        OverflowRows x = new OverflowRows();
        Check.write(x, "7=" + Check.letters(20) + ";1=abcdef");
        int[][] pieces = {{0, 1, 8}, {0, 2, 6}};
        for (int piece = 0; piece < 2; piece++) {
            for (int what = 0; what < 3; what++) {
                due("piece(7, " + piece + ", " + what + ")", x.piece(7, piece, what), pieces[piece][what]);
            }
        }
        due("piece: behind", x.piece(7, 2, 0), NO_SUCH);
        due("piece: before", x.piece(7, -1, 0), NO_SUCH);
        due("piece: none first", x.piece(7, 2, 9), NO_SUCH);
        due("piece: of none", x.piece(1, 0, 0), NO_SUCH);
        due("piece: no row", x.piece(2, 0, 0), NO_SUCH);
        due("piece: key -1", x.piece(-1, 0, 0), NO_SUCH);
        due("piece: key 100", x.piece(100, 0, 0), NO_SUCH);
        due("piece: what -1", x.piece(7, 0, -1), BAD_VALUE);
        due("piece: what 3", x.piece(7, 0, 3), BAD_VALUE);
        Check.write(x, Check.row(8, 40));
        due("piece: next page", x.piece(8, 1, 0), 1);
        due("piece: first slot there", x.piece(8, 1, 1), 1);
    }

    private static void promises10And11() {
        OverflowRows x = moved();
        check.page(x, 0, 1, 4, 2, 1, 1, 0);
        check.page(x, 1, 17, 2, 2, 0, 0, 0);
        check.page(x, 2, 40, 0, 0, 0, 0, 0);
        check.slot(x, 0, 0, 1, 1, 18);
        check.slot(x, 0, 2, 3, 3, 1);
        check.slot(x, 0, 3, 2, 3, 2);
        check.slot(x, 1, 0, 1, 4, 18);
        check.slot(x, 1, 1, 1, 3, 5);
        x.delete(1);
        check.page(x, 0, 19, 4, 1, 1, 1, 1);
        check.slot(x, 0, 0, 0, NONE, 0);
        due("slot: of a gap, what 3", x.slot(0, 0, 3), BAD_VALUE);
        x.delete(3);
        check.page(x, 0, 22, 2, 1, 0, 0, 1);
        due("slot: gone", x.slot(0, 2, 0), NO_SUCH);
        x.delete(2);
        check.page(x, 0, 40, 0, 0, 0, 0, 0);
        int[] noPages = {-1, 10, Integer.MIN_VALUE, Integer.MAX_VALUE};
        for (int page : noPages) {
            due("page(" + page + ", 0)", x.page(page, 0), NO_SUCH);
            due("page(" + page + ", 9)", x.page(page, 9), NO_SUCH);
            due("slot(" + page + ", 0, 0)", x.slot(page, 0, 0), NO_SUCH);
        }
        due("page: what -1", x.page(0, -1), BAD_VALUE);
        due("page: what 6", x.page(9, 6), BAD_VALUE);
        due("slot: of an empty page", x.slot(0, 0, 0), NO_SUCH);
        due("slot: -1", x.slot(1, -1, 0), NO_SUCH);
        due("slot: behind", x.slot(1, 1, 0), NO_SUCH);
        due("slot: none first", x.slot(1, 1, 9), NO_SUCH);
        due("slot: great", x.slot(1, Integer.MAX_VALUE, 0), NO_SUCH);
        due("slot: what -1", x.slot(1, 0, -1), BAD_VALUE);
        due("slot: what 3", x.slot(1, 0, 3), BAD_VALUE);
    }

    private static void promise12() {
        OverflowRows x = moved();
        Check.put(x, "hello");
        check.counts(x, 4, 2, 1, 1, 400 - 39 - 23, 6, 52, 3, 3, 8, 5, 6);
        due("count(-1)", x.count(-1), BAD_VALUE);
        due("count(12)", x.count(12), BAD_VALUE);
        due("count(great)", x.count(Integer.MAX_VALUE), BAD_VALUE);
        x.delete(1);
        x.delete(2);
        x.delete(3);
        check.counts(x, 1, 1, 0, 0, 382, 1, 16, 1);
        x.delete(4);
        check.counts(x, 0, 0, 0, 0, 400, 0, 0, NONE);
    }

    private static void promise13() {
        OverflowRows x = new OverflowRows();
        due("key: no rows", x.key(0), NO_SUCH);
        Check.write(x, "50=;0=;99=;7=");
        int[] keys = {0, 7, 50, 99};
        for (int place = 0; place < 4; place++) {
            due("key(" + place + ")", x.key(place), keys[place]);
        }
        due("key(4)", x.key(4), NO_SUCH);
        due("key(-1)", x.key(-1), NO_SUCH);
        due("key(great)", x.key(Integer.MAX_VALUE), NO_SUCH);
        x.delete(7);
        due("key: one less", x.key(1), 50);
        due("key: none there", x.key(3), NO_SUCH);
    }

    /** Two rows of 30 letters with pieces of 12; how they lie with other heads is told at each test. */
    private static OverflowRows two() {
        OverflowRows x = new OverflowRows();
        x.set(1, 12);
        Check.write(x, Check.row(1, 30) + ";" + Check.row(2, 30));
        return x;
    }

    private static void promise14() {
        OverflowRows x = two();
        due("ifPacked: head of 2 on page 0, pieces on page 1", x.ifPacked(0, 0), 3);
        due("ifPacked: head of 4 on page 0, too", x.ifPacked(2, 0), 3);
        due("ifPacked: head of 5 just on page 0", x.ifPacked(3, 0), 3);
        due("ifPacked: last piece on page 0", x.ifPacked(4, 0), 3);
        due("ifPacked: the same HEAD, nothing on page 0", x.ifPacked(6, 0), 2);
        due("ifPacked: so, too", x.ifPacked(8, 0), 2);
        due("ifPacked: greatest HEAD", x.ifPacked(16, 0), 3);
        due("ifPacked: pages", x.ifPacked(16, 1), 2);
        due("ifPacked: 6 pieces", x.ifPacked(4, 2), 6);
        due("ifPacked: 4 pieces", x.ifPacked(6, 2), 4);
        int[][] bad = {{-1, 0}, {17, 0}, {0, -1}, {0, 3}, {Integer.MIN_VALUE, 0}, {Integer.MAX_VALUE, 0}};
        for (int[] pair : bad) {
            due("ifPacked(" + pair[0] + ", " + pair[1] + ")", x.ifPacked(pair[0], pair[1]), BAD_VALUE);
        }
        due("ifPacked: nothing is changed", x.count(8), 6);
        due("ifPacked: not recorded", x.count(11), 2);
        due("ifPacked: no rows", new OverflowRows().ifPacked(3, 0), 0);
        due("ifPacked: no rows, pages", new OverflowRows().ifPacked(3, 1), 0);
        due("ifPacked: no rows, pieces", new OverflowRows().ifPacked(3, 2), 0);

        OverflowRows y = new OverflowRows();
        for (int key = 0; key < 5; key++) {
            Check.write(y, Check.row(key, 40));
        }
        y.set(1, 1);
        due("ifPacked: 410 cells", y.ifPacked(0, 0), NOT_POSSIBLE);
        due("ifPacked: 405 cells", y.ifPacked(1, 2), NOT_POSSIBLE);
        due("ifPacked: what first", y.ifPacked(0, 3), BAD_VALUE);
        due("ifPacked: 400 cells", y.ifPacked(2, 0), 10);
        due("ifPacked: all pages", y.ifPacked(2, 1), 10);
        due("ifPacked: 190 pieces", y.ifPacked(2, 2), 190);
        due("ifPacked: rows stay", y.row(4, 6), 6);
        due("ifPacked: pieces stay", y.count(3), 25);
    }

    private static void promise15() {
        due("bestHead: no rows", new OverflowRows().bestHead(), NONE);
        OverflowRows x = two();
        x.set(0, 11);
        due("bestHead: the least of several", x.bestHead(), 6);
        due("bestHead: nothing is changed", x.count(8), 11);
        due("bestHead: not recorded", x.count(11), 3);
        x.delete(2);
        due("bestHead: of one row", x.bestHead(), 0);

        OverflowRows y = new OverflowRows();
        y.set(0, 16);
        y.set(1, 12);
        for (int key = 0; key < 7; key++) {
            Check.write(y, Check.row(key, 40));
        }
        due("bestHead: all rows are there", y.count(0), 7);
        y.set(1, 1);
        due("bestHead: none can be", y.bestHead(), NONE);
        due("bestHead: so", y.ifPacked(16, 0), NOT_POSSIBLE);
        y.delete(0);
        due("bestHead: the greatest alone can be", y.ifPacked(14, 0), NOT_POSSIBLE);
        due("bestHead: the greatest", y.bestHead(), 16);
    }

    private static void promise16() {
        OverflowRows x = new OverflowRows();
        due("most: new", x.most(0), 40);
        due("most: greatest key", x.most(99), 40);
        due("most(-1)", x.most(-1), BAD_VALUE);
        due("most(100)", x.most(100), BAD_VALUE);
        due("most(great)", x.most(Integer.MAX_VALUE), BAD_VALUE);
        x.set(0, 16);
        for (int key = 0; key < 20; key++) {
            Check.write(x, Check.row(key, 16));
        }
        due("most: 4 cells, 2 letters", x.most(50), 2);
        due("most: a piece of 3 letters", x.most(0), 19);
        for (int key = 20; key < 30; key++) {
            Check.write(x, Check.row(key, 2));
        }
        due("most: a 31st row", x.most(50), NONE);
        due("most: its own cells", x.most(20), 2);
        due("most: its own cells, too", x.most(0), 16);
        x.delete(29);
        due("most: of 4 cells", x.most(50), 2);
        due("most: with a piece", x.most(0), 19);
        x.set(0, 0);
        due("most: head 0", x.most(50), 1);
        x.set(0, 16);
        x.append(18, 0);
        due("most: 2 cells", x.most(50), 0);
        x.append(18, 0);
        due("most: 1 cell", x.most(50), NONE);
        due("most: nothing is changed", x.row(18, 0), 18);
        due("most: no row", x.row(50, 0), NO_SUCH);
        due("most: rows", x.count(0), 29);
        for (int key = 0; key < 20; key++) {
            x.delete(key);
        }
        due("most: room again", x.most(20), 40);
        due("most: not written", x.row(20, 0), 2);
    }
}
