/** The boundary cases of promises 1 to 6: each of their sentences that names one has a test here. */
public final class ChangesBoundsTest {
    private static final int NO_SUCH = -1, BAD_VALUE = -2, BAD_TEXT = -3, TOO_MANY = -4, NOT_POSSIBLE = -5, NONE = -6;
    private static final int HEAD = 0, PIECE = 1;
    private static final Check check = new Check();

    public static void main(String[] args) {
        newPages();
        newRest();
        setReturnsThePrevious();
        setNoSuchSetting();
        setOutOfRange();
        writeUpToTheFirst();
        writeEmptiesThePad();
        writeCannotBePlaced();
        writeThirtyRows();
        writeIsOneChange();
        writeHowMany();
        writeMostRows();
        writeBadText();
        appendAtTheEnd();
        appendLetters();
        appendHowMany();
        appendNoSuchRow();
        appendTooMany();
        appendNotPossible();
        deleteAllOfARow();
        deleteHowManyCells();
        deleteNoSuchRow();
        packIsAChange();
        packHowManyPages();
        packNotPossible();
        check.finish();
    }

    private static void due(String call, long got, long want) {
        check.due(call, got, want);
    }

    private static void newPages() {
        check.sentence("Promise 1", "Creates empty pages.");
        OverflowRows x = new OverflowRows();
        for (int page = 0; page < 10; page++) {
            check.page(x, page, 40, 0, 0, 0, 0, 0);
            due("slot(" + page + ", 0, 0)", x.slot(page, 0, 0), NO_SUCH);
        }
        due("free room of all pages", x.count(4), 400);
    }

    private static void newRest() {
        check.sentence("Promise 1", "Creates empty pages.");
        OverflowRows x = new OverflowRows();
        check.counts(x, 0, 0, 0, 0, 400, 0, 0, NONE, 6, 8, 0, 0);
        due("key(0)", x.key(0), NO_SUCH);
        for (int key = 0; key < 100; key++) {
            due("row(" + key + ", 0)", x.row(key, 0), NO_SUCH);
        }
        due("bestHead()", x.bestHead(), NONE);
        due("most(0)", x.most(0), 40);
        due("fault()", x.fault(), 0);
        due("wipe()", x.wipe(), 0);
        due("undo()", x.undo(), NOT_POSSIBLE);
        due("restore(0)", x.restore(0), NOT_POSSIBLE);
        due("restore(1)", x.restore(1), NOT_POSSIBLE);
        Made.write(x, "1=");
        check.same("another new object", View.ofAll(new OverflowRows()), View.ofAll(new OverflowRows()));
        due("rows of another new object", new OverflowRows().count(0), 0);
    }

    // ---- set

    private static void setReturnsThePrevious() {
        check.sentence("Promise 2", "Returns the previous value");
        OverflowRows x = new OverflowRows();
        due("set(HEAD, 0)", x.set(HEAD, 0), 6);
        due("set(HEAD, 16)", x.set(HEAD, 16), 0);
        due("set(HEAD, 16) again", x.set(HEAD, 16), 16);
        due("set(PIECE, 1)", x.set(PIECE, 1), 8);
        due("set(PIECE, 12)", x.set(PIECE, 12), 1);
        due("set(PIECE, 12) again", x.set(PIECE, 12), 12);
        due("set(HEAD, 1)", x.set(HEAD, 1), 16);
        due("set(HEAD, 15)", x.set(HEAD, 15), 1);
        due("set(PIECE, 2)", x.set(PIECE, 2), 12);
        due("set(PIECE, 11)", x.set(PIECE, 11), 2);
        due("HEAD", x.count(8), 15);
        due("PIECE", x.count(9), 11);
    }

    private static void setNoSuchSetting() {
        check.sentence("Promise 2", "BAD_VALUE if there is no such setting");
        OverflowRows x = new OverflowRows();
        for (int setting : new int[] {-1, 2, Integer.MIN_VALUE, Integer.MAX_VALUE}) {
            for (int value = -1; value <= 17; value++) {
                due("set(" + setting + ", " + value + ")", x.set(setting, value), BAD_VALUE);
            }
        }
        due("HEAD", x.count(8), 6);
        due("PIECE", x.count(9), 8);
        due("history", x.count(11), 0);
    }

    private static void setOutOfRange() {
        check.sentence("Promise 2", "or the value is out of its range");
        OverflowRows x = new OverflowRows();
        for (int value : new int[] {-1, 17, Integer.MIN_VALUE, Integer.MAX_VALUE}) {
            due("set(HEAD, " + value + ")", x.set(HEAD, value), BAD_VALUE);
        }
        // 13 to 16 and 0 are values of HEAD, not of PIECE.
        for (int value : new int[] {0, -1, 13, 14, 15, 16, Integer.MIN_VALUE, Integer.MAX_VALUE}) {
            due("set(PIECE, " + value + ")", x.set(PIECE, value), BAD_VALUE);
        }
        due("HEAD", x.count(8), 6);
        due("PIECE", x.count(9), 8);
        due("history", x.count(11), 0);
    }

    // ---- write

    private static void writeUpToTheFirst() {
        check.sentence("Promise 3", "Writes the rows of the pad, one after the other, "
                + "up to the first one that cannot be written");
        OverflowRows x = Made.twenty();
        due("write() with the second too long", Check.write(x, "30=ab;31=abc;32=a"), 1);
        due("row(30, 0)", x.row(30, 0), 2);
        due("row(31, 0)", x.row(31, 0), NO_SUCH);
        due("row(32, 0), which could be written", x.row(32, 0), NO_SUCH);
        due("write() with the first too long", Check.write(x, "31=abc;32=a"), 0);
        due("row(32, 0), too", x.row(32, 0), NO_SUCH);
        due("write() of it alone", Check.write(x, "32=a"), 1);
        due("write() with the same key twice", Check.write(x, "33=;33=a;33=ab;33=abc"), 3);
        due("row(33, 0)", x.row(33, 0), 2);
        due("write() with the last too long", Check.write(x, "32=;34=;0=" + Check.letters(20)), 2);
        due("row(32, 0) then", x.row(32, 0), 0);
        due("row(34, 0)", x.row(34, 0), 0);
        due("row(0, 0)", x.row(0, 0), 16);
    }

    private static void writeEmptiesThePad() {
        check.sentence("Promise 3", "and empties the pad");
        OverflowRows x = Made.full();
        due("write() of one", Check.write(x, "20=ab"), 1);
        due("pad", x.count(10), 0);
        due("write() of one of two", Check.write(x, "20=a;20=abc"), 1);
        due("pad", x.count(10), 0);
        due("write() of none", Check.write(x, "30=ab"), 0);
        due("pad", x.count(10), 0);
        due("write() of the empty pad", x.write(), BAD_TEXT);
        Check.put(x, Check.row(7, 40) + ";" + Check.row(8, 35));
        due("a full pad", x.count(10), 80);
        due("write() of it", x.write(), 0);
        due("pad", x.count(10), 0);
    }

    private static void writeCannotBePlaced() {
        check.sentence("Promise 3", "A row cannot be written if a thing of it cannot be placed");
        OverflowRows x = Made.twenty();
        x.set(HEAD, 4);
        due("a head of 6 for 4", Check.write(x, "30=abcd"), 0);
        due("a head of 5 for 4", Check.write(x, "30=abc"), 0);
        due("a head of 4 for 4", Check.write(x, "30=ab"), 1);
        x.set(HEAD, 2);
        due("a piece of 5 for 4", Check.write(x, "31=ababcd"), 0);
        due("a piece of 4 for 4", Check.write(x, "31=ababc"), 1);
        due("rows", x.count(0), 22);
        due("free", x.count(4), 40 - 4 - 8);
    }

    private static void writeThirtyRows() {
        check.sentence("Promise 3", "or it is new and there are 30 rows");
        OverflowRows x = Made.thirty();
        x.delete(29);
        due("write() of a 30th and a 31st", Check.write(x, "98=;99=;0=a"), 1);
        due("rows", x.count(0), 30);
        due("row(98, 0)", x.row(98, 0), 0);
        due("row(99, 0)", x.row(99, 0), NO_SUCH);
        due("row(0, 0)", x.row(0, 0), 0);
        due("write() of old ones", Check.write(x, "0=a;28=bc;98=d"), 3);
        due("row(98, 0)", x.row(98, 0), 1);
        due("append(28, 3)", x.append(28, 3), 3);
        due("write() of old ones and a new one", Check.write(x, "0=;1=a;99=;2=a"), 2);
        due("row(2, 0)", x.row(2, 0), 0);
        due("rows", x.count(0), 30);
        x.delete(0);
        due("write() of a new one when one is gone", Check.write(x, "99="), 1);
    }

    private static void writeIsOneChange() {
        check.sentence("Promise 3", "This is a change (one, with all of them; also if none is written).");
        OverflowRows x = Made.with("1=a;2=b;3=c");
        due("history with three rows", x.count(11), 1);
        due("undo()", x.undo(), 0);
        due("rows", x.count(0), 0);
        OverflowRows y = Made.full();
        y.undo();
        due("history", y.count(11), 5);
        due("write() of one of two", Check.write(y, "29=ab;40="), 1);
        due("history with one of two", y.count(11), 6);
        y.undo();
        due("row(29, 0)", y.row(29, 0), NO_SUCH);
        String before = View.rows(y);
        due("write() of none", Check.write(y, "40=abc"), 0);
        due("history with none", y.count(11), 6);
        check.same("write() of none", View.rows(y), before);
        due("undo() of none", y.undo(), 5);
        check.same("undo() of none", View.rows(y), before);
    }

    private static void writeHowMany() {
        check.sentence("Promise 3", "Returns how many were written");
        OverflowRows x = new OverflowRows();
        due("one", Check.write(x, "1="), 1);
        due("two", Check.write(x, "2=;3="), 2);
        due("two, of one key", Check.write(x, "4=;4="), 2);
        due("old ones, too", Check.write(x, "1=;5=;2="), 3);
        due("none", Check.write(Made.full(), "50="), 0);
    }

    private static void writeMostRows() {
        check.sentence("Promise 3", "Returns how many were written");
        StringBuilder text = new StringBuilder("0=");
        for (int key = 1; key <= 9; key++) {
            text.append(';').append(key).append('=');
        }
        for (int again = 0; again < 17; again++) {
            text.append(';').append(again % 10).append('=');
        }
        OverflowRows x = new OverflowRows();
        Check.put(x, text.toString());
        due("pad", x.count(10), 80);
        due("write() of as many as can be in a pad", x.write(), 27);
        due("rows", x.count(0), 10);
        due("pad then", x.count(10), 0);
    }

    private static void writeBadText() {
        check.sentence("Promise 3", "BAD_TEXT if the pad has a fault (then it stays)");
        OverflowRows x = new OverflowRows();
        due("write() of an empty pad", x.write(), BAD_TEXT);
        due("write() that ends too early", Check.write(x, "1=abc;2"), BAD_TEXT);
        due("pad", x.count(10), 7);
        due("rows", x.count(0), 0);
        due("history", x.count(11), 0);
        due("write() with the rest", Check.write(x, "=d"), 2);
        due("letter(1, 2)", x.letter(1, 2), 2);
        due("letter(2, 0)", x.letter(2, 0), 3);
        due("write() with the last character wrong", Check.write(x, "1=abC"), BAD_TEXT);
        due("pad", x.count(10), 5);
        due("row(1, 0)", x.row(1, 0), 3);
        due("write() again", x.write(), BAD_TEXT);
        due("wipe()", x.wipe(), 5);
        due("write() with a 41st letter", Check.write(x, Check.row(1, 41)), BAD_TEXT);
        due("pad", x.count(10), 43);
        due("history", x.count(11), 1);
    }

    // ---- append

    private static void appendAtTheEnd() {
        check.sentence("Promise 4", "Puts a letter at the end of the text of a row, which is written with that.");
        OverflowRows x = Made.with("1=;2=b");
        x.set(HEAD, 1);
        due("append() to no letters", x.append(1, 7), 1);
        due("letter(1, 0)", x.letter(1, 0), 7);
        due("letters of the head", x.row(1, 6), 1);
        due("append() that begins a piece", x.append(1, 8), 2);
        due("letter(1, 1)", x.letter(1, 1), 8);
        due("pieces", x.row(1, 7), 1);
        due("letter(2, 0)", x.letter(2, 0), 1);
        for (int letters = 2; letters < 40; letters++) {
            due("append(1, " + letters % 26 + ")", x.append(1, letters % 26), letters + 1);
            due("letter(1, " + letters + ")", x.letter(1, letters), letters % 26);
            due("letter(1, 0)", x.letter(1, 0), 7);
            due("letter behind", x.letter(1, letters + 1), NO_SUCH);
        }
        due("pieces of 40 letters", x.row(1, 7), 5);
    }

    private static void appendLetters() {
        check.sentence("Promise 4", "`letter`: 0 to 25");
        OverflowRows x = Made.with("1=");
        for (int letter : new int[] {-1, 26, Integer.MIN_VALUE, Integer.MAX_VALUE}) {
            due("append(1, " + letter + ")", x.append(1, letter), BAD_VALUE);
        }
        due("append(1, 0)", x.append(1, 0), 1);
        due("append(1, 25)", x.append(1, 25), 2);
        due("letter(1, 0)", x.letter(1, 0), 0);
        due("letter(1, 1)", x.letter(1, 1), 25);
        due("letters", x.row(1, 0), 2);
    }

    private static void appendHowMany() {
        check.sentence("Promise 4", "Returns how many letters it has then");
        OverflowRows x = Made.with("1=", Check.row(2, 39));
        due("the first", x.append(1, 3), 1);
        due("the second", x.append(1, 3), 2);
        due("the 40th", x.append(2, 3), 40);
        due("row(2, 0)", x.row(2, 0), 40);
        OverflowRows y = Made.thirty();
        due("with 30 rows", y.append(0, 3), 1);
        due("history", y.count(11), 6);
    }

    private static void appendNoSuchRow() {
        check.sentence("Promise 4", "NO_SUCH if there is no such row");
        OverflowRows x = Made.with("0=;50=;99=");
        for (int key : new int[] {-1, 1, 49, 51, 98, 100, Integer.MIN_VALUE, Integer.MAX_VALUE}) {
            due("append(" + key + ", 0)", x.append(key, 0), NO_SUCH);
        }
        due("append(0, 0)", x.append(0, 0), 1);
        due("append(99, 0)", x.append(99, 0), 1);
        x.delete(50);
        due("append() to a deleted row", x.append(50, 0), NO_SUCH);
    }

    private static void appendTooMany() {
        check.sentence("Promise 4", "TOO_MANY if it has 40");
        OverflowRows x = Made.with(Check.row(1, 40), Check.row(2, 39));
        due("append() to 40", x.append(1, 0), TOO_MANY);
        due("append() to 39", x.append(2, 0), 40);
        due("append() to 40 then", x.append(2, 0), TOO_MANY);
        due("row(1, 0)", x.row(1, 0), 40);
        due("row(2, 0)", x.row(2, 0), 40);
        due("history", x.count(11), 3);
    }

    private static void appendNotPossible() {
        check.sentence("Promise 4", "NOT_POSSIBLE if it cannot be written");
        OverflowRows x = Made.full();
        for (int key = 0; key < 30; key++) {
            due("append(" + key + ", 0) where nothing is free", x.append(key, 0), NOT_POSSIBLE);
        }
        due("history", x.count(11), 6);
        x.delete(29);
        due("append() of a piece of 2 for 4 free cells", x.append(5, 0), 17);
        due("append() of a piece of 3 for them", x.append(5, 0), 18);
        due("append() of a piece of 4 for them", x.append(5, 0), 19);
        due("append() of a piece of 5 for them", x.append(5, 0), NOT_POSSIBLE);
        due("row(5, 0)", x.row(5, 0), 19);
        due("append() of a head of 5", x.append(20, 0), NOT_POSSIBLE);
        due("notes", x.count(2), 0);
    }

    // ---- delete

    private static void deleteAllOfARow() {
        check.sentence("Promise 5", "Deletes a row: its head, its pieces and its note go.");
        OverflowRows x = Made.moved(20);
        x.set(HEAD, 3);
        x.append(20, 3);
        check.row(x, 20, 4, 0, 2, 9, 1, 1, 3, 1, 3, 8);
        x.delete(20);
        check.page(x, 0, 4, 2, 2, 0, 0, 0);
        check.page(x, 9, 18, 3, 2, 0, 0, 1);
        due("row(20, 0)", x.row(20, 0), NO_SUCH);
        due("notes", x.count(2), 0);
        due("pieces", x.count(3), 0);
        due("rows", x.count(0), 28);
        OverflowRows y = Made.with(Check.row(1, 40));
        y.delete(1);
        check.counts(y, 0, 0, 0, 0, 400, 0, 0, NONE);
        due("key(0)", y.key(0), NO_SUCH);
    }

    private static void deleteHowManyCells() {
        check.sentence("Promise 5", "Returns how many cells that frees");
        OverflowRows x = Made.with("1=;2=a;" + Check.row(3, 6) + ";" + Check.row(4, 7), Check.row(5, 40));
        due("a head without letters", x.delete(1), 2);
        due("a head with one", x.delete(2), 3);
        due("a full head", x.delete(3), 8);
        due("a head and a piece of one", x.delete(4), 10);
        due("a head and five pieces", x.delete(5), 47);
        due("with a note", Made.moved(20).delete(20), 6);
        OverflowRows y = Made.withSettings(0, 1);
        Made.write(y, Check.row(1, 40));
        due("a head and forty pieces", y.delete(1), 82);
        due("free", y.count(4), 400);
    }

    private static void deleteNoSuchRow() {
        check.sentence("Promise 5", "NO_SUCH if there is no such row");
        OverflowRows x = Made.with("0=;50=;99=");
        for (int key : new int[] {-1, 1, 49, 51, 98, 100, Integer.MIN_VALUE, Integer.MAX_VALUE}) {
            due("delete(" + key + ")", x.delete(key), NO_SUCH);
        }
        due("delete(0)", x.delete(0), 2);
        due("delete(0) again", x.delete(0), NO_SUCH);
        due("delete(99)", x.delete(99), 2);
        due("delete(99) again", x.delete(99), NO_SUCH);
        due("rows", x.count(0), 1);
        due("history", x.count(11), 3);
        due("delete() of a new object", new OverflowRows().delete(0), NO_SUCH);
    }

    // ---- pack

    private static void packIsAChange() {
        check.sentence("Promise 6", "Packs all anew. This is a change.");
        OverflowRows x = Made.away(20);
        x.delete(0);
        String before = View.rows(x);
        int changes = x.count(11);
        due("pack()", x.pack(), 10);
        due("notes", x.count(2), 0);
        due("history", x.count(11), Math.min(6, changes + 1));
        due("undo()", x.undo(), 5);
        check.same("undo()", View.rows(x), before);
    }

    private static void packHowManyPages() {
        check.sentence("Promise 6", "Returns how many pages have things then");
        OverflowRows x = new OverflowRows();
        due("pack() without rows", x.pack(), 0);
        due("history", x.count(11), 1);
        Made.write(x, "1=");
        due("one page", x.pack(), 1);
        OverflowRows y = Made.full();
        due("ten pages, all full", y.pack(), 10);
        for (int key = 0; key < 20; key += 2) {
            y.delete(key);
        }
        due("pages before", y.count(1), 10);
        due("six pages", y.pack(), 6);
        due("pages then", y.count(1), 6);
    }

    private static void packNotPossible() {
        check.sentence("Promise 6", "NOT_POSSIBLE if a row could not be written so (then all is as it was)");
        OverflowRows x = new OverflowRows();
        for (int key = 0; key < 5; key++) {
            Made.write(x, Check.row(key, 40));
        }
        x.set(PIECE, 1);
        x.set(HEAD, 1);
        String before = View.of(x);
        due("pack() to 405 cells", x.pack(), NOT_POSSIBLE);
        check.same("pack() to 405 cells", View.of(x), before);
        x.set(HEAD, 2);
        due("pack() to 400 cells", x.pack(), 10);
        due("free", x.count(4), 0);
        due("pieces", x.count(3), 190);
        x.set(HEAD, 1);
        before = View.of(x);
        due("pack() to 405 cells again", x.pack(), NOT_POSSIBLE);
        check.same("pack() to 405 cells again", View.of(x), before);
        x.delete(4);
        due("pack() to 324 cells", x.pack(), 9);
    }
}
