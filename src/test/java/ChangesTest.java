/** Promises 1 to 6 and 20 to 22: changes, undo and saved states. */
public final class ChangesTest {
    private static final int NO_SUCH = -1, BAD_VALUE = -2, BAD_TEXT = -3, TOO_MANY = -4, NOT_POSSIBLE = -5, NONE = -6;
    private static final Check check = new Check();

    public static void main(String[] args) {
        promise1();
        promise2();
        promise2HoldsFromThenOn();
        promise3();
        promise3Stops();
        promise3CannotBePlaced();
        promise4();
        promise4Moves();
        promise4MovesAgainAndHome();
        promise5();
        promise6();
        promise6NotPossible();
        promise20();
        promise20WhatIsRecorded();
        promise21And22();
        check.finish();
    }

    private static void due(String call, long got, long want) {
        check.due(call, got, want);
    }

    private static void promise1() {
        OverflowRows x = new OverflowRows();
        int[] counts = {0, 0, 0, 0, 400, 0, 0, NONE, 6, 8, 0, 0};
        for (int what = 0; what < counts.length; what++) {
            due("new: count(" + what + ")", x.count(what), counts[what]);
        }
        for (int page = 0; page < 10; page++) {
            due("new: page(" + page + ", 0)", x.page(page, 0), 40);
            due("new: page(" + page + ", 1)", x.page(page, 1), 0);
        }
        due("new: key(0)", x.key(0), NO_SUCH);
        due("new: undo()", x.undo(), NOT_POSSIBLE);
        due("new: restore(0)", x.restore(0), NOT_POSSIBLE);
        OverflowRows other = new OverflowRows();
        Check.write(other, "1=abc");
        other.set(0, 2);
        due("new: another one's row", x.row(1, 0), NO_SUCH);
        due("new: another one's HEAD", x.count(8), 6);
    }

    private static void promise2() {
        OverflowRows x = new OverflowRows();
        int[][] bad = {{0, -1}, {0, 17}, {1, 0}, {1, 13}, {2, 5}, {-1, 5}, {0, Integer.MIN_VALUE},
            {0, Integer.MAX_VALUE}, {1, Integer.MIN_VALUE}, {Integer.MAX_VALUE, 1}, {Integer.MIN_VALUE, 1}};
        for (int[] pair : bad) {
            due("set(" + pair[0] + ", " + pair[1] + ")", x.set(pair[0], pair[1]), BAD_VALUE);
        }
        due("set: HEAD after errors", x.count(8), 6);
        due("set: PIECE after errors", x.count(9), 8);
        due("set: errors are not recorded", x.count(11), 0);
        due("set(HEAD, 0)", x.set(0, 0), 6);
        due("set(HEAD, 16)", x.set(0, 16), 0);
        due("set(PIECE, 1)", x.set(1, 1), 8);
        due("set(PIECE, 12)", x.set(1, 12), 1);
        due("set(PIECE, 12) again", x.set(1, 12), 12);
        due("set: HEAD", x.count(8), 16);
        due("set: PIECE", x.count(9), 12);
        due("set: recorded, also the same value", x.count(11), 5);
    }

    private static void promise2HoldsFromThenOn() {
        OverflowRows x = new OverflowRows();
        Check.write(x, Check.row(1, 10));
        x.set(0, 2);
        x.set(1, 3);
        due("set: an old head stays", x.row(1, 6), 6);
        due("set: an old piece stays", x.piece(1, 0, 2), 4);
        x.append(1, 0);
        due("set: a head written anew", x.row(1, 6), 2);
        due("set: pieces written anew", x.row(1, 7), 3);
        due("set: a piece written anew", x.piece(1, 2, 2), 3);
    }

    private static void promise3() {
        OverflowRows x = new OverflowRows();
        due("write() of nothing", x.write(), BAD_TEXT);
        due("write: a fault", Check.write(x, "1=a;2"), BAD_TEXT);
        due("write: the pad stays", x.count(10), 5);
        due("write: no row", x.count(0), 0);
        due("write: not recorded", x.count(11), 0);
        due("write: mended", Check.write(x, "="), 2);
        due("write: empties the pad", x.count(10), 0);
        due("write: one change", x.count(11), 1);
        due("write: letters", x.row(1, 0), 1);
        due("write: no letters", x.row(2, 0), 0);
        due("write: key twice", Check.write(x, "1=xyz;1=bc;3="), 3);
        due("write: the last one counts", x.row(1, 0), 2);
        due("write: its letter", x.letter(1, 0), 1);
        due("write: rows", x.count(0), 3);
        due("write: head again in its slot", x.row(1, 4), 0);

        OverflowRows y = new OverflowRows();
        due("write: 20 letters", Check.write(y, Check.row(3, 20)), 1);
        due("write: head cells", y.slot(0, 0, 2), 8);
        due("write: piece cells", y.slot(0, 1, 2), 9);
        due("write: last piece", y.slot(0, 2, 2), 7);
        due("write: free", y.page(0, 0), 16);
        due("write: a full piece as last", Check.write(y, Check.row(4, 14)), 1);
        due("write: one piece", y.row(4, 7), 1);
        due("write: head fits below", y.row(4, 3), 0);
        due("write: piece on the next page", y.piece(4, 0, 0), 1);
        due("write: shorter", Check.write(y, "3=ab"), 1);
        due("write: pieces go", y.row(3, 7), 0);
        due("write: gaps", y.page(0, 5), 2);
        due("write: lowest gap", Check.write(y, "9="), 1);
        due("write: its slot", y.row(9, 4), 1);
    }

    private static void promise3Stops() {
        OverflowRows x = Made.thirty();
        due("30 rows", x.count(0), 30);
        due("write: a 31st", Check.write(x, "50=a;0=a"), 0);
        due("write: none after it", x.row(0, 0), 0);
        due("write: not there", x.row(50, 0), NO_SUCH);
        due("write: pad empty", x.count(10), 0);
        due("write: some", Check.write(x, "0=a;29=ab;50=;1=b"), 2);
        due("write: before it", x.row(29, 0), 2);
        due("write: after it", x.row(1, 0), 0);
        x.delete(7);
        due("write: a place again", Check.write(x, "50=a;51="), 1);
        due("write: is there", x.row(50, 0), 1);
        due("write: rows", x.count(0), 30);
    }

    private static void promise3CannotBePlaced() {
        OverflowRows x = Made.twenty();
        due("twenty: free", x.count(4), 40);
        due("write: head cannot be placed", Check.write(x, "40=abc"), 0);
        due("write: head just fits", Check.write(x, "40=ab"), 1);
        due("write: its page", x.row(40, 3), 0);
        due("write: its slot", x.row(40, 4), 2);
        x.set(0, 2);
        int pages = x.page(1, 0);
        due("write: piece cannot be placed", Check.write(x, "41=ab;42=abcdef;43="), 1);
        due("write: the one before", x.row(41, 3), 1);
        due("write: no head is left", x.page(2, 0), 4);
        due("write: no row is left", x.row(42, 0), NO_SUCH);
        due("write: no row after it", x.row(43, 0), NO_SUCH);
        due("write: free before", pages, 4);
        due("write: an old row", Check.write(x, Check.row(3, 40)), 0);
        due("write: stays as it was", x.row(3, 0), 16);
        due("write: in its slot", x.slot(1, 1, 1), 3);
        due("write: with its head", x.row(3, 6), 16);
        due("write: with its letters", x.letter(3, 15), 15);
    }

    private static void promise4() {
        OverflowRows x = new OverflowRows();
        Check.write(x, "5=ab;6=" + Check.letters(40));
        due("append: no row", x.append(4, 99), NO_SUCH);
        due("append: key -1", x.append(-1, 0), NO_SUCH);
        due("append: key 100", x.append(100, 0), NO_SUCH);
        due("append: letter -1", x.append(5, -1), BAD_VALUE);
        due("append: letter 26", x.append(5, 26), BAD_VALUE);
        due("append: bad before many", x.append(6, 26), BAD_VALUE);
        due("append: 40 letters", x.append(6, 0), TOO_MANY);
        due("append: errors are not recorded", x.count(11), 1);
        due("append: a", x.append(5, 0), 3);
        due("append: z", x.append(5, 25), 4);
        due("append: third", x.letter(5, 2), 0);
        due("append: fourth", x.letter(5, 3), 25);
        due("append: the first stays", x.letter(5, 1), 1);
        due("append: recorded", x.count(11), 3);

        OverflowRows y = Made.full();
        due("full: free", y.count(4), 0);
        due("append: no piece", y.append(0, 0), NOT_POSSIBLE);
        due("append: no head", y.append(20, 0), NOT_POSSIBLE);
        due("append: as it was", y.row(0, 0), 16);
        due("append: as it was, too", y.row(20, 0), 2);
        due("append: no note", y.count(2), 0);
        due("append: nothing free", y.count(4), 0);
        due("append: head there", y.slot(0, 2, 0), 1);
    }

    private static void promise4Moves() {
        OverflowRows x = Made.full();
        x.delete(19);
        due("append: moves", x.append(20, 2), 3);
        check.where(x, 20, 0, 2, 9, 1);
        due("append: note's cell", x.slot(0, 2, 2), 1);
        due("append: free at home", x.page(0, 0), 3);
        due("append: free there", x.page(9, 0), 13);
        due("append: same slot", x.append(20, 3), 4);
        check.where(x, 20, 0, 2, 9, 1);
        due("append: free there then", x.page(9, 0), 12);
        Check.write(x, Check.row(19, 10));
        check.where(x, 19, 9, 3, 9, 3);
        due("append: nowhere", x.append(20, 4), NOT_POSSIBLE);
        check.where(x, 20, 0, 2, 9, 1);
        x.delete(0);
        due("append: home", x.append(20, 4), 5);
        check.where(x, 20, 0, 2, 0, 2);
        due("append: note gone", x.count(2), 0);
        due("append: free at home then", x.page(0, 0), 15);
        due("append: gap", x.slot(9, 1, 0), 0);
        due("append: letters", x.letter(20, 4), 4);
    }

    /** Row 3 is at home in (0, 2), and its head of 7 letters lies in (2, 0), page 2 is full. */
    private static OverflowRows crowded(int lettersAtHome) {
        OverflowRows x = new OverflowRows();
        x.set(0, 16);
        Check.write(x, Check.row(1, 16));
        Check.write(x, Check.row(2, 16));
        Check.write(x, Check.row(3, 2) + ";" + Check.row(4, 16));
        x.append(3, 2);
        check.where(x, 3, 0, 2, 1, 1);
        Check.write(x, Check.row(5, 13));
        x.append(3, 3);
        x.append(3, 4);
        check.where(x, 3, 0, 2, 1, 1);
        due("crowded: page 1", x.page(1, 0), 0);
        x.append(3, 5);
        check.where(x, 3, 0, 2, 2, 0);
        due("crowded: gap on page 1", x.page(1, 5), 1);
        due("crowded: note stays", x.count(2), 1);
        x.delete(2);
        x.append(3, 6);
        check.where(x, 3, 0, 2, 2, 0);
        Check.write(x, Check.row(6, lettersAtHome));
        check.where(x, 6, 0, 1, 0, 1);
        for (int row = 0; row < 9 && x.page(2, 0) > 0; row++) {
            Check.write(x, x.page(2, 0) > 18 ? Check.row(7, 16) : Check.row(8, x.page(2, 0) - 2));
        }
        return x;
    }

    private static void promise4MovesAgainAndHome() {
        OverflowRows x = crowded(10);
        due("home: free with the note", x.page(0, 0), 9);
        due("home: just without the note", x.append(3, 7), 8);
        check.where(x, 3, 0, 2, 0, 2);
        due("home: full", x.page(0, 0), 0);
        due("home: no note", x.page(0, 4), 0);
        due("home: gap", x.slot(2, 0, 0), 0);

        OverflowRows y = crowded(11);
        due("no home: free with the note", y.page(0, 0), 8);
        due("no home: a cell too few", y.append(3, 7), 8);
        check.where(y, 3, 0, 2, 3, 0);
        due("no home: note stays", y.page(0, 0), 8);
        due("no home: cells", y.row(3, 9), 11);
    }

    private static void promise5() {
        OverflowRows x = new OverflowRows();
        Check.write(x, Check.row(7, 20) + ";8=abc;9=");
        due("delete: no row", x.delete(1), NO_SUCH);
        due("delete: key -1", x.delete(-1), NO_SUCH);
        due("delete: key 100", x.delete(100), NO_SUCH);
        due("delete: errors are not recorded", x.count(11), 1);
        due("delete: head and pieces", x.delete(7), 24);
        due("delete: gone", x.row(7, 0), NO_SUCH);
        due("delete: again", x.delete(7), NO_SUCH);
        due("delete: rows", x.count(0), 2);
        due("delete: gaps", x.page(0, 5), 3);
        due("delete: pieces gone", x.page(0, 3), 0);
        due("delete: last slot", x.delete(9), 2);
        due("delete: slots", x.page(0, 1), 4);
        due("delete: all", x.delete(8), 5);
        due("delete: no slot", x.page(0, 1), 0);
        due("delete: free", x.count(4), 400);
        due("delete: recorded", x.count(11), 4);
        Check.write(x, "8=z");
        due("delete: a new home", x.row(8, 2), 0);

        OverflowRows y = Made.full();
        y.delete(19);
        y.append(20, 2);
        due("delete: with the note", y.delete(20), 6);
        due("delete: note gone", y.count(2), 0);
        due("delete: slots without the note", y.page(0, 1), 2);
        due("delete: free there", y.page(9, 0), 18);
    }

    private static void promise6() {
        OverflowRows x = new OverflowRows();
        due("pack() of nothing", x.pack(), 0);
        due("pack: recorded", x.count(11), 1);
        Check.write(x, "9=abc;1=de;5=");
        x.delete(9);
        Check.write(x, "12=;3=xyz;9=q");
        due("pack()", x.pack(), 1);
        for (int place = 0; place < 5; place++) {
            due("pack: slot " + place, x.slot(0, place, 1), x.key(place));
            due("pack: home " + place, x.row(x.key(place), 2), place);
        }
        due("pack: slots", x.page(0, 1), 5);
        due("pack: letters stay", x.letter(3, 1), 24);

        OverflowRows y = Made.full();
        y.delete(19);
        y.append(20, 2);
        due("pack: all pages", y.pack(), 10);
        due("pack: no notes", y.count(2), 0);
        check.where(y, 20, 9, 1, 9, 1);
        due("pack: three letters", y.row(20, 0), 3);
        check.where(y, 21, 0, 2, 0, 2);
        for (int key = 0; key < 4; key++) {
            y.delete(key);
        }
        y.set(0, 3);
        y.set(1, 12);
        // 15 rows of 20 cells, two a page, one of 5 cells, and nine of 4 cells.
        due("pack: heads of now", y.pack(), 9);
        due("pack: a head", y.row(4, 6), 3);
        due("pack: a piece", y.piece(4, 1, 2), 1);
        due("pack: the last page", y.page(8, 0), 16);
    }

    private static void promise6NotPossible() {
        OverflowRows x = new OverflowRows();
        for (int key = 0; key < 5; key++) {
            Check.write(x, Check.row(key, 40));
        }
        x.set(0, 0);
        x.set(1, 1);
        int changes = x.count(11);
        int slots = x.page(0, 1);
        due("pack: 410 cells", x.pack(), NOT_POSSIBLE);
        due("pack: not recorded", x.count(11), changes);
        due("pack: as it was", x.page(0, 1), slots);
        due("pack: head as it was", x.row(0, 6), 6);
        due("pack: free as it was", x.count(4), 400 - 5 * 47);
        x.delete(4);
        due("pack: 328 cells", x.pack(), 9);
        due("pack: pieces", x.count(3), 160);
    }

    private static void promise20() {
        OverflowRows x = new OverflowRows();
        Check.write(x, "1=");
        for (int letter = 0; letter < 8; letter++) {
            x.append(1, letter);
            due("history", x.count(11), Math.min(6, letter + 2));
        }
        Check.put(x, "2=a");
        x.save(0);
        for (int left = 5; left >= 0; left--) {
            due("undo()", x.undo(), left);
            due("undo: letters", x.row(1, 0), left + 2);
            due("undo: history", x.count(11), left);
        }
        due("undo: no more", x.undo(), NOT_POSSIBLE);
        due("undo: pieces back", x.row(1, 7), 0);
        due("undo: pad stays", x.count(10), 3);
        due("undo: what was saved stays", x.restore(0), 1);
        due("undo: with 8 letters", x.row(1, 0), 8);
        due("undo: of restore", x.undo(), 0);
        due("undo: back", x.row(1, 0), 2);
        x.set(0, 9);
        x.set(1, 3);
        due("undo: settings", x.undo(), 1);
        due("undo: PIECE", x.count(9), 8);
        due("undo: HEAD not yet", x.count(8), 9);
        x.delete(1);
        due("undo: after a new change", x.count(11), 2);
        due("undo: delete", x.undo(), 1);
        due("undo: row is back", x.letter(1, 1), 1);
        due("undo: HEAD", x.undo(), 0);
        due("undo: HEAD back", x.count(8), 6);
    }

    private static void promise20WhatIsRecorded() {
        OverflowRows x = Made.thirty();
        for (int i = 0; i < 6; i++) {
            x.undo();
        }
        due("recorded: none", x.count(11), 0);
        Check.put(x, "0=a");
        x.wipe();
        x.fault();
        x.save(1);
        x.most(3);
        x.bestHead();
        x.ifPacked(3, 0);
        due("recorded: no changes", x.count(11), 0);
        due("undo: nothing", x.undo(), NOT_POSSIBLE);
        due("rows", x.count(0), 24);
        for (int key = 24; key < 30; key++) {
            Check.write(x, key + "=");
        }
        due("recorded: none is written", Check.write(x, "77=a"), 0);
        due("undo: none was written", x.undo(), 5);
        due("undo: still 30", x.count(0), 30);
        due("undo: 29", x.undo(), 4);
        due("undo: a row less", x.count(0), 29);
        Check.write(x, "77=a;78=b");
        due("undo: part", x.undo(), 4);
        due("undo: part gone", x.row(77, 0), NO_SUCH);
        x.set(0, 6);
        x.pack();
        due("undo: pack", x.undo(), 5);
        due("undo: set to the same", x.undo(), 4);
    }

    private static void promise21And22() {
        OverflowRows x = new OverflowRows();
        for (int place : new int[] {-1, 2, Integer.MIN_VALUE, Integer.MAX_VALUE}) {
            due("save(" + place + ")", x.save(place), BAD_VALUE);
            due("restore(" + place + ")", x.restore(place), BAD_VALUE);
        }
        due("restore(0)", x.restore(0), NOT_POSSIBLE);
        due("restore(1)", x.restore(1), NOT_POSSIBLE);
        due("restore: not recorded", x.count(11), 0);
        due("save(0)", x.save(0), 0);
        Check.write(x, "1=abc;2=" + Check.letters(20));
        x.set(0, 4);
        due("save(1)", x.save(1), 2);
        due("save: not a change", x.count(11), 2);
        x.delete(1);
        x.append(2, 25);
        x.set(1, 2);
        Check.put(x, "9=");
        due("restore(1) then", x.restore(1), 2);
        due("restore: a change", x.count(11), 6);
        due("restore: row", x.letter(1, 2), 2);
        due("restore: other row", x.row(2, 0), 20);
        due("restore: its head", x.row(2, 6), 6);
        due("restore: HEAD", x.count(8), 4);
        due("restore: PIECE", x.count(9), 8);
        due("restore: slot", x.slot(0, 3, 2), 7);
        due("restore: pad stays", x.count(10), 2);
        x.append(1, 3);
        due("restore: keeps it", x.restore(1), 2);
        due("restore: as saved", x.row(1, 0), 3);
        due("restore(0) then", x.restore(0), 0);
        due("restore: free", x.count(4), 400);
        due("undo: restore", x.undo(), 5);
        due("undo: rows", x.count(0), 2);
        x.delete(2);
        due("save: overwrites", x.save(1), 1);
        x.undo();
        due("restore: overwritten", x.restore(1), 1);
        due("restore: not there", x.row(2, 0), NO_SUCH);
    }
}
