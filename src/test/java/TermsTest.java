/** The boundary cases of 'Terms' (but 'Texts'): each of its sentences that names one has a test here. */
public final class TermsTest {
    private static final int NO_SUCH = -1, BAD_VALUE = -2, TOO_MANY = -4, NOT_POSSIBLE = -5, NONE = -6;
    private static final int HEAD = 0, PIECE = 1;
    private static final Check check = new Check();

    public static void main(String[] args) {
        callsOfAnObject();
        errorCodes();
        numbering();
        noneIsNoError();
        head();
        piece();
        settingsHoldFromThenOn();
        pages();
        oneThing();
        room();
        cellsOfHeads();
        cellsOfPieces();
        cellsOfNotes();
        emptySlots();
        freeRoom();
        lowestEmptySlot();
        newSlotBehindAll();
        slotsOfAPage();
        mostSlotsOfAPage();
        thirtyRows();
        keys();
        texts();
        letters();
        lettersInTheHead();
        lettersInPieces();
        home();
        lowestPage();
        noPage();
        newRow();
        oldPiecesGo();
        headGoes();
        sameSlot();
        movedHeadStays();
        noteComes();
        noteThenHead();
        slotIsEmpty();
        comesHome();
        thenPieces();
        newRowIsNotWritten();
        oldRowIsNotWritten();
        movedRowIsNotWritten();
        reading();
        readingInOrder();
        packing();
        packingAsTheyAre();
        check.finish();
    }

    private static void due(String call, long got, long want) {
        check.due(call, got, want);
    }

    private static void callsOfAnObject() {
        check.sentence("What it is", "An object is used for at most 512 calls after it has been made");
        OverflowRows x = new OverflowRows();
        x.put(Check.number("5="));
        x.write();
        for (int call = 3; call < 509; call++) {
            due("call " + call, x.set(HEAD, call % 17), call == 3 ? 6 : (call - 1) % 17);
        }
        due("call 509", x.append(5, 0), 1);
        due("call 510", x.count(11), 6);
        due("call 511", x.undo(), 5);
        due("call 512", x.row(5, 0), 0);
    }

    // ---- conventions

    private static void errorCodes() {
        check.sentence("Conventions", "A method that fails returns one of the error codes NO_SUCH (-1), BAD_VALUE (-2), "
                + "BAD_TEXT (-3), TOO_MANY (-4) and NOT_POSSIBLE (-5)");
        OverflowRows x = new OverflowRows();
        due("delete(0)", x.delete(0), -1);
        due("set(2, 0)", x.set(2, 0), -2);
        due("write()", x.write(), -3);
        due("undo()", x.undo(), -5);
        Made.write(x, Check.row(0, 40));
        due("append(0, 0)", x.append(0, 0), -4);
        check.sentence("Conventions", "NONE (-6) is not an error");
        Check.put(x, "1=");
        due("fault()", x.fault(), -6);
    }

    private static void numbering() {
        check.sentence("Conventions", "Everything is numbered from 0.");
        OverflowRows x = Made.with("5=" + Check.letters(20));
        due("key(0)", x.key(0), 5);
        due("key(1)", x.key(1), NO_SUCH);
        due("letter(5, 0)", x.letter(5, 0), 0);
        due("letter(5, 19)", x.letter(5, 19), 19);
        due("letter(5, 20)", x.letter(5, 20), NO_SUCH);
        due("piece(5, 0, 2)", x.piece(5, 0, 2), 8);
        due("piece(5, 1, 2)", x.piece(5, 1, 2), 6);
        due("piece(5, 2, 2)", x.piece(5, 2, 2), NO_SUCH);
        due("slot(0, 0, 0)", x.slot(0, 0, 0), 1);
        due("slot(0, 2, 0)", x.slot(0, 2, 0), 2);
        due("slot(0, 3, 0)", x.slot(0, 3, 0), NO_SUCH);
        x.put('x');
        due("fault() of a first character", x.fault(), 0);
    }

    private static void noneIsNoError() {
        check.sentence("Conventions", "it is returned only if no error applies");
        OverflowRows x = Made.full();
        due("most(30), new, with 30 rows", x.most(30), NONE);
        due("most(100), so", x.most(100), BAD_VALUE);
        due("most(-1), so", x.most(-1), BAD_VALUE);
        x.delete(0);
        due("slot(0, 0, 1) of an empty slot", x.slot(0, 0, 1), NONE);
        due("slot(0, 0, 3) of it", x.slot(0, 0, 3), BAD_VALUE);
        due("slot(0, 0, -1) of it", x.slot(0, 0, -1), BAD_VALUE);
        OverflowRows y = new OverflowRows();
        due("count(7) without rows", y.count(7), NONE);
        due("count(12) without rows", y.count(12), BAD_VALUE);
        due("slot(0, 0, 1) of a page without slots", y.slot(0, 0, 1), NO_SUCH);
    }

    // ---- settings

    private static void head() {
        check.sentence("Settings", "HEAD (0 to 16; 6), the most letters of a head.");
        due("count(8) of a new object", new OverflowRows().count(8), 6);
        due("set(HEAD, -1)", new OverflowRows().set(HEAD, -1), BAD_VALUE);
        due("set(HEAD, 17)", new OverflowRows().set(HEAD, 17), BAD_VALUE);
        for (int head = 0; head <= 16; head++) {
            OverflowRows x = new OverflowRows();
            due("set(HEAD, " + head + ")", x.set(HEAD, head), 6);
            due("count(8)", x.count(8), head);
            Made.write(x, Check.row(1, head) + ";" + Check.row(2, head + 1));
            due("letters of a head of " + head, x.row(1, 6), head);
            due("pieces with " + head + " letters", x.row(1, 7), 0);
            due("letters of a head with a letter more", x.row(2, 6), head);
            check.pieces(x, 2, new int[] {x.row(2, 3), x.row(2, 4) + 1, 1});
        }
    }

    private static void piece() {
        check.sentence("Settings", "PIECE (1 to 12; 8), the most letters of a piece.");
        due("count(9) of a new object", new OverflowRows().count(9), 8);
        due("set(PIECE, 0)", new OverflowRows().set(PIECE, 0), BAD_VALUE);
        due("set(PIECE, 13)", new OverflowRows().set(PIECE, 13), BAD_VALUE);
        for (int piece = 1; piece <= 12; piece++) {
            OverflowRows x = new OverflowRows();
            due("set(PIECE, " + piece + ")", x.set(PIECE, piece), 8);
            due("count(9)", x.count(9), piece);
            x.set(HEAD, 0);
            Made.write(x, Check.row(1, piece));
            check.pieces(x, 1, new int[] {0, 1, piece});
            Made.write(x, Check.row(1, piece + 1));
            check.pieces(x, 1, new int[] {0, 1, piece}, new int[] {0, 2, 1});
        }
    }

    private static void settingsHoldFromThenOn() {
        check.sentence("Settings", "They hold for rows that are written from then on.");
        OverflowRows x = Made.with(Check.row(1, 20) + ";" + Check.row(2, 14) + ";" + Check.row(3, 7));
        String before = View.rows(x).replace("count 8: 6", "count 8: 0").replace("count 9: 8", "count 9: 3");
        x.set(HEAD, 0);
        x.set(PIECE, 3);
        check.same("set() of both", View.rows(x), before);
        x.delete(2);
        due("letters of the head of another row", x.row(1, 6), 6);
        Made.write(x, Check.row(3, 7));
        due("letters of a head, with the same text again", x.row(3, 6), 0);
        due("pieces of it", x.row(3, 7), 3);
        x.append(1, 20);
        due("letters of a head after append()", x.row(1, 6), 0);
        due("pieces after append()", x.row(1, 7), 7);
        x.set(HEAD, 16);
        due("letters of a head after set()", x.row(1, 6), 0);
        x.pack();
        due("letters of a head after pack()", x.row(1, 6), 16);
        for (int head = 0; head <= 16; head++) {
            OverflowRows y = Made.with(Check.row(1, 20));
            y.set(HEAD, head);
            y.append(1, 0);
            due("letters of a head after append() with HEAD " + head, y.row(1, 6), head);
            due("HEAD", y.count(8), head);
        }
    }

    // ---- pages and slots

    private static void pages() {
        check.sentence("Pages, slots", "There are 10 pages, 0 to 9");
        OverflowRows x = Made.twenty();
        due("page(-1, 2)", x.page(-1, 2), NO_SUCH);
        for (int page = 0; page < 10; page++) {
            due("page(" + page + ", 2)", x.page(page, 2), 2);
            due("slot(" + page + ", 1, 1)", x.slot(page, 1, 1), 2 * page + 1);
        }
        due("page(10, 2)", x.page(10, 2), NO_SUCH);
        due("slot(-1, 0, 0)", x.slot(-1, 0, 0), NO_SUCH);
        due("slot(10, 0, 0)", x.slot(10, 0, 0), NO_SUCH);
        due("write() of a row for an eleventh page", Check.write(x, Check.row(50, 3)), 0);
    }

    private static void oneThing() {
        check.sentence("Pages, slots", "A page has slots, numbered from 0; a slot is empty, or has one thing");
        OverflowRows crowded = Made.moved(20);
        crowded.set(HEAD, 3);
        crowded.append(20, 3);
        crowded.delete(1);
        Made.write(crowded, Check.row(2, 9));
        for (OverflowRows x : new OverflowRows[] {Made.thirty(), Made.away(21), Made.tight(), Made.stuffed(), crowded}) {
            int[][] kinds = kindsByRows(x);
            for (int page = 0; page < 10; page++) {
                for (int slot = 0; slot < x.page(page, 1); slot++) {
                    due("slot(" + page + ", " + slot + ", 0)", x.slot(page, slot, 0), kinds[page][slot]);
                    kinds[page][slot] = 0;
                }
                for (int slot = 0; slot < 40; slot++) {
                    due("thing behind the last slot, " + slot + " of page " + page, kinds[page][slot], 0);
                }
            }
        }
    }

    /** What the rows say of each slot; two things in one slot make a sum that no thing has. */
    private static int[][] kindsByRows(OverflowRows x) {
        int[][] kinds = new int[10][40];
        for (int place = 0; place < x.count(0); place++) {
            int key = x.key(place);
            kinds[x.row(key, 3)][x.row(key, 4)] += 1;
            if (x.row(key, 5) == 1) {
                kinds[x.row(key, 1)][x.row(key, 2)] += 3;
            }
            for (int piece = 0; piece < x.row(key, 7); piece++) {
                kinds[x.piece(key, piece, 0)][x.piece(key, piece, 1)] += 2;
            }
        }
        return kinds;
    }

    private static void room() {
        check.sentence("Pages, slots", "each with room for 40 cells");
        OverflowRows x = Made.withSettings(16, 8);
        due("free", x.page(0, 0), 40);
        Made.write(x, Check.row(1, 16) + ";" + Check.row(2, 16) + ";" + Check.row(3, 2));
        check.page(x, 0, 0, 3, 3);
        check.page(x, 1, 40, 0, 0);
        OverflowRows y = Made.withSettings(16, 8);
        Made.write(y, Check.row(1, 16) + ";" + Check.row(2, 16) + ";" + Check.row(3, 3));
        check.page(y, 0, 4, 2, 2);
        check.page(y, 1, 35, 1, 1);
    }

    private static void cellsOfHeads() {
        check.sentence("Pages, slots", "a head, which takes 2 cells and one for each of its letters");
        OverflowRows x = Made.withSettings(16, 8);
        Made.write(x, "1=;2=a;" + Check.row(3, 16));
        check.slot(x, 0, 0, 1, 1, 2);
        check.slot(x, 0, 1, 1, 2, 3);
        check.slot(x, 0, 2, 1, 3, 18);
        due("page(0, 0)", x.page(0, 0), 40 - 23);
    }

    private static void cellsOfPieces() {
        check.sentence("Pages, slots", "a piece, which takes 1 cell and one for each of its letters");
        OverflowRows x = Made.withSettings(0, 12);
        Made.write(x, Check.row(1, 13));
        check.slot(x, 0, 1, 2, 1, 13);
        check.slot(x, 0, 2, 2, 1, 2);
        due("page(0, 0)", x.page(0, 0), 40 - 17);
    }

    private static void cellsOfNotes() {
        check.sentence("Pages, slots", "or a note, which takes 1 cell");
        OverflowRows x = Made.full();
        int before = x.row(20, 9);
        x.delete(19);
        x.append(20, 2);
        check.slot(x, 0, 2, 3, 20, 1);
        due("page(0, 0), where a head of 4 cells was", x.page(0, 0), 3);
        due("row(20, 9)", x.row(20, 9), before + 1 + 1);
    }

    private static void emptySlots() {
        check.sentence("Pages, slots", "An empty slot takes nothing.");
        OverflowRows x = Made.with("1=abc;2=abcdefgh;3=");
        x.delete(1);
        check.slot(x, 0, 0, 0, NONE, 0);
        check.page(x, 0, 40 - 8 - 3 - 2, 4, 2, 1, 0, 1);
        x.delete(2);
        check.slot(x, 0, 1, 0, NONE, 0);
        check.slot(x, 0, 2, 0, NONE, 0);
        check.page(x, 0, 38, 4, 1, 0, 0, 3);
        Made.write(x, Check.row(4, 20) + ";" + Check.row(5, 4));
        check.page(x, 0, 40 - 2 - 24 - 6, 5, 3, 2, 0, 0);
    }

    private static void freeRoom() {
        check.sentence("Pages, slots", "The free room of a page is 40 less all that its things take.");
        OverflowRows x = Made.moved(20);
        x.delete(1);
        x.set(HEAD, 0);
        x.set(PIECE, 12);
        Made.write(x, Check.row(40, 10));
        // Page 0: the head of row 0, the head of row 40 in the gap, the note of row 20, the piece.
        check.page(x, 0, 40 - 18 - 2 - 1 - 11, 4, 2, 1, 1, 0);
        for (int page = 0; page < 10; page++) {
            int cells = 0;
            for (int slot = 0; slot < x.page(page, 1); slot++) {
                cells += x.slot(page, slot, 2);
            }
            due("page(" + page + ", 0)", x.page(page, 0), 40 - cells);
        }
        due("free when all is full", Made.full().page(9, 0), 0);
    }

    private static void lowestEmptySlot() {
        check.sentence("Pages, slots", "A thing that comes into a page takes the lowest empty slot");
        OverflowRows x = Made.with("0=;1=;2=;3=;4=;5=");
        x.delete(3);
        x.delete(0);
        x.delete(1);
        Made.write(x, Check.row(9, 7));
        due("a head into the lowest of three", x.row(9, 4), 0);
        due("a piece into the next", x.piece(9, 0, 1), 1);
        Made.write(x, "8=");
        due("a head into the last", x.row(8, 4), 3);
        OverflowRows y = Made.away(20);
        y.delete(4);
        y.append(20, 3);
        check.where(y, 20, 0, 2, 2, 0);
    }

    private static void newSlotBehindAll() {
        check.sentence("Pages, slots", "or a new one behind all, if there is none");
        OverflowRows x = Made.with("0=", Check.row(1, 15));
        due("first slot", x.row(0, 4), 0);
        due("a head behind", x.row(1, 4), 1);
        check.pieces(x, 1, new int[] {0, 2, 8}, new int[] {0, 3, 1});
        due("slots", x.page(0, 1), 4);
        OverflowRows y = Made.thirty();
        for (int key = 0; key < 20; key++) {
            check.where(y, key, 0, key, 0, key);
        }
        check.where(y, 20, 1, 0, 1, 0);
    }

    private static void slotsOfAPage() {
        check.sentence("Pages, slots", "A page has as many slots as up to its last one that has a thing.");
        OverflowRows x = Made.with("0=;1=;2=;3=;4=");
        due("slots", x.page(0, 1), 5);
        x.delete(0);
        x.delete(2);
        x.delete(3);
        due("slots with gaps before the last", x.page(0, 1), 5);
        due("gaps", x.page(0, 5), 3);
        due("slot(0, 4, 1)", x.slot(0, 4, 1), 4);
        due("slot(0, 5, 1)", x.slot(0, 5, 1), NO_SUCH);
        x.delete(4);
        due("slots without the last", x.page(0, 1), 2);
        due("gaps then", x.page(0, 5), 1);
        due("slot(0, 1, 1)", x.slot(0, 1, 1), 1);
        due("slot(0, 2, 1)", x.slot(0, 2, 1), NO_SUCH);
        x.delete(1);
        due("slots without all", x.page(0, 1), 0);
        due("gaps without all", x.page(0, 5), 0);
        due("slot(0, 0, 1)", x.slot(0, 0, 1), NO_SUCH);
    }

    /** All thirty rows are at home on page 0, and all their heads move; five pieces fill it then. */
    private static void mostSlotsOfAPage() {
        check.sentence("Pages, slots", "A page has as many slots as up to its last one that has a thing.");
        OverflowRows x = Made.withSettings(16, 1);
        Made.write(x, Check.row(0, 16) + ";" + Check.row(1, 16));
        for (int key = 2; key < 30; key++) {
            if (x.page(0, 0) < 2) {
                int longer = x.row(0, 0) > 0 ? 0 : 1;
                Made.write(x, Check.row(longer, x.row(longer, 0) - 1));
            }
            Made.write(x, key + "=");
            check.where(x, key, 0, key, 0, key);
            Made.write(x, Check.row(key, x.page(0, 0) + 1));
            due("thing at home of " + key, x.slot(0, key, 0), 3);
        }
        Made.write(x, Check.row(0, 16) + ";" + Check.row(1, 16));
        check.page(x, 0, 10, 30, 0, 0, 30, 0);
        x.set(HEAD, 0);
        Made.write(x, Check.row(29, 5));
        check.page(x, 0, 0, 35, 0, 5, 30, 0);
        for (int slot = 0; slot < 30; slot++) {
            check.slot(x, 0, slot, 3, slot, 1);
        }
        for (int slot = 30; slot < 35; slot++) {
            check.slot(x, 0, slot, 2, 29, 2);
        }
        due("slot(0, 35, 0)", x.slot(0, 35, 0), NO_SUCH);
        x.delete(29);
        check.page(x, 0, 11, 29, 0, 0, 29, 0);
        due("count(2)", x.count(2), 29);
    }

    // ---- rows

    private static void thirtyRows() {
        check.sentence("Rows", "There are up to 30 rows");
        OverflowRows x = Made.thirty();
        due("count(0)", x.count(0), 30);
        due("write() of a 31st", Check.write(x, "30="), 0);
        due("count(0) then", x.count(0), 30);
        due("row(30, 0)", x.row(30, 0), NO_SUCH);
        due("key(29)", x.key(29), 29);
        due("key(30)", x.key(30), NO_SUCH);
        x.delete(0);
        due("write() when one is gone", Check.write(x, "30="), 1);
        due("key(29) then", x.key(29), 30);
    }

    private static void keys() {
        check.sentence("Rows", "each with a key (0 to 99)");
        OverflowRows x = Made.with("0=a;99=bc");
        due("row(0, 0)", x.row(0, 0), 1);
        due("row(99, 0)", x.row(99, 0), 2);
        due("row(-1, 0)", x.row(-1, 0), NO_SUCH);
        due("row(100, 0)", x.row(100, 0), NO_SUCH);
        due("append(99, 0)", x.append(99, 0), 3);
        due("append(0, 0)", x.append(0, 0), 2);
        due("delete(99)", x.delete(99), 5);
        due("delete(0)", x.delete(0), 4);
        for (int key = 0; key < 100; key++) {
            due("write() of " + key, Check.write(x, key + "=b"), 1);
            due("key(0)", x.key(0), key);
            due("slot(0, 0, 1)", x.slot(0, 0, 1), key);
            due("delete(" + key + ")", x.delete(key), 3);
        }
    }

    private static void texts() {
        check.sentence("Rows", "and a text of 0 to 40 letters");
        OverflowRows x = Made.with("1=", Check.row(2, 39), Check.row(3, 40));
        due("row(1, 0)", x.row(1, 0), 0);
        due("letter(1, 0)", x.letter(1, 0), NO_SUCH);
        due("row(3, 0)", x.row(3, 0), 40);
        due("letter(3, 39)", x.letter(3, 39), 39 % 26);
        due("letter(3, 40)", x.letter(3, 40), NO_SUCH);
        due("append(2, 0)", x.append(2, 0), 40);
        due("append(2, 0) again", x.append(2, 0), TOO_MANY);
        Check.put(x, Check.row(4, 41));
        due("fault()", x.fault(), 42);
    }

    private static void letters() {
        check.sentence("Rows", "a to z");
        OverflowRows x = Made.with("1=az");
        due("letter(1, 0)", x.letter(1, 0), 0);
        due("letter(1, 1)", x.letter(1, 1), 25);
        due("append(1, 0)", x.append(1, 0), 3);
        due("append(1, 25)", x.append(1, 25), 4);
        due("append(1, -1)", x.append(1, -1), BAD_VALUE);
        due("append(1, 26)", x.append(1, 26), BAD_VALUE);
        due("letter(1, 2)", x.letter(1, 2), 0);
        due("letter(1, 3)", x.letter(1, 3), 25);
        Check.put(x, "2=`");
        due("fault() of the one before a", x.fault(), 2);
        x.wipe();
        Check.put(x, "2={");
        due("fault() of the one behind z", x.fault(), 2);
    }

    private static void lettersInTheHead() {
        check.sentence("Rows", "The first HEAD letters (or all, if there are fewer) are in its head");
        OverflowRows x = Made.with("1=;2=abcde;3=abcdef;4=abcdefg");
        check.row(x, 1, 0, 0, 0, 0, 0, 0, 0, 0);
        check.row(x, 2, 5, 0, 1, 0, 1, 0, 5, 0);
        check.row(x, 3, 6, 0, 2, 0, 2, 0, 6, 0);
        check.row(x, 4, 7, 0, 3, 0, 3, 0, 6, 1);
    }

    private static void lettersInPieces() {
        check.sentence("Rows", "the others, in order, in pieces of PIECE letters each, "
                + "the last one of which can have fewer");
        OverflowRows x = Made.withSettings(4, 5);
        Made.write(x, Check.row(1, 13));
        check.pieces(x, 1, new int[] {0, 1, 5}, new int[] {0, 2, 4});
        Made.write(x, Check.row(1, 14));
        check.pieces(x, 1, new int[] {0, 1, 5}, new int[] {0, 2, 5});
        Made.write(x, Check.row(1, 15));
        check.pieces(x, 1, new int[] {0, 1, 5}, new int[] {0, 2, 5}, new int[] {0, 3, 1});
        for (int place = 0; place < 15; place++) {
            due("letter(1, " + place + ")", x.letter(1, place), place);
        }
        OverflowRows y = Made.withSettings(0, 1);
        Made.write(y, Check.row(1, 40));
        due("pieces of 40 letters", y.row(1, 7), 40);
        due("letters of the last", y.piece(1, 39, 2), 1);
        due("one more", y.piece(1, 40, 2), NO_SUCH);
    }

    private static void home() {
        check.sentence("Rows", "The home of a row is the slot to which its head came first; "
                + "if the head is elsewhere, there is a note at the home.");
        OverflowRows x = Made.with("1=;2=");
        check.where(x, 2, 0, 1, 0, 1);
        OverflowRows y = Made.away(21);
        check.where(y, 21, 1, 2, 9, 1);
        y.delete(4);
        y.append(21, 3);
        check.where(y, 21, 1, 2, 2, 0);
        due("notes", y.count(2), 1);
        y.delete(21);
        Made.write(y, "21=");
        check.where(y, 21, 1, 2, 1, 2);
    }

    private static void lowestPage() {
        check.sentence("Rows", "A thing is placed like this: into the lowest page with enough free room");
        OverflowRows x = Made.twenty();
        x.delete(6);
        x.delete(12);
        // Free are 22 cells on pages 3 and 6, and 4 on the others.
        Made.write(x, Check.row(30, 2) + ";" + Check.row(31, 3));
        due("a head of 4 for 4 free cells", x.row(30, 3), 0);
        due("a head of 5 for the lower one of two pages", x.row(31, 3), 3);
        x.set(HEAD, 0);
        Made.write(x, Check.row(32, 4));
        due("a head of 2 for 4 free cells", x.row(32, 3), 1);
        check.pieces(x, 32, new int[] {3, 2, 4});
        x.set(PIECE, 1);
        Made.write(x, Check.row(33, 3));
        due("a head of 2 for 2 free cells", x.row(33, 3), 1);
        check.pieces(x, 33, new int[] {2, 2, 1}, new int[] {2, 3, 1}, new int[] {3, 3, 1});
    }

    private static void noPage() {
        check.sentence("Rows", "if there is none, it cannot be placed");
        OverflowRows x = Made.twenty();
        due("free in all", x.count(4), 40);
        due("write() of a head of 5, where 4 are free on each page", Check.write(x, Check.row(30, 3)), 0);
        due("most(30)", x.most(30), 2);
        for (int key = 20; key < 29; key++) {
            Made.write(x, Check.row(key, 2));
        }
        due("write() of a head of 5, where 4 are free", Check.write(x, Check.row(30, 3)), 0);
        due("write() of a head of 4, where 4 are free", Check.write(x, Check.row(30, 2)), 1);
        due("append(30, 0)", x.append(30, 0), NOT_POSSIBLE);
        due("free in all then", x.count(4), 0);
    }

    private static void newRow() {
        check.sentence("Rows", "A new row is written: its head is placed, and the page and slot are its home; "
                + "then its pieces are placed, one after the other.");
        OverflowRows x = Made.withSettings(16, 12);
        Made.write(x, Check.row(1, 16) + ";" + Check.row(2, 13));
        x.set(HEAD, 0);
        // 7 cells are free on page 0: 2 for the head, none of 13 for the first piece, 5 for the second one.
        Made.write(x, Check.row(5, 16));
        check.where(x, 5, 0, 2, 0, 2);
        check.pieces(x, 5, new int[] {1, 0, 12}, new int[] {0, 3, 4});
        OverflowRows y = Made.withSettings(16, 12);
        Made.write(y, Check.row(1, 16) + ";" + Check.row(2, 16));
        Made.write(y, Check.row(5, 18));
        // The head of 18 is for page 1; its piece of 3 is for page 0, which is lower.
        check.where(y, 5, 1, 0, 1, 0);
        check.pieces(y, 5, new int[] {0, 2, 2});
    }

    private static void oldPiecesGo() {
        check.sentence("Rows", "A row with a new text is written: its old pieces go");
        OverflowRows x = Made.tight();
        due("free", x.page(0, 0), 0);
        Made.write(x, Check.row(1, 9));
        // The head of 11 cells has the room of the old head, 4, and of the old piece, 7.
        check.where(x, 1, 0, 0, 0, 0);
        due("free then", x.page(0, 0), 0);
        due("pieces", x.row(1, 7), 0);
        check.slot(x, 0, 1, 0, NONE, 0);
        OverflowRows y = Made.with(Check.row(1, 40));
        Made.write(y, Check.row(1, 6));
        due("pieces of all pages", y.count(3), 0);
        due("free on page 1", y.page(1, 0), 40);
        due("slots on page 0", y.page(0, 1), 1);
    }

    private static void headGoes() {
        check.sentence("Rows", "its head goes, too, and if the page where it was has enough free room then, "
                + "the new head comes into the same slot");
        OverflowRows x = Made.full();
        due("free", x.count(4), 0);
        Made.write(x, Check.row(7, 16) + ";" + Check.row(20, 2));
        check.where(x, 7, 3, 1, 3, 1);
        check.where(x, 20, 0, 2, 0, 2);
        Made.write(x, Check.row(20, 1));
        check.where(x, 20, 0, 2, 0, 2);
        due("free with a letter less", x.page(0, 0), 1);
        due("append() of the one letter", x.append(20, 1), 2);
        check.where(x, 20, 0, 2, 0, 2);
        due("append() of one more", x.append(20, 2), NOT_POSSIBLE);
    }

    private static void sameSlot() {
        check.sentence("Rows", "the new head comes into the same slot");
        OverflowRows x = Made.twenty();
        x.delete(0);
        Made.write(x, Check.row(1, 16) + ";" + Check.row(2, 16) + ";" + Check.row(19, 3));
        check.where(x, 1, 0, 1, 0, 1);
        check.where(x, 2, 1, 0, 1, 0);
        check.where(x, 19, 9, 1, 9, 1);
        due("the lower slot", x.slot(0, 0, 0), 0);
    }

    private static void movedHeadStays() {
        check.sentence("Rows", "if the page where it was has enough free room then, "
                + "the new head comes into the same slot");
        OverflowRows x = Made.moved(20);
        x.delete(0);
        due("free at home", x.page(0, 0), 21);
        x.append(20, 3);
        check.where(x, 20, 0, 2, 9, 1);
        Made.write(x, Check.row(20, 16));
        check.where(x, 20, 0, 2, 9, 1);
        due("free where it is, just enough", x.page(9, 0), 0);
        Made.write(x, "20=");
        check.where(x, 20, 0, 2, 9, 1);
        due("a note", x.count(2), 1);
    }

    private static void noteComes() {
        check.sentence("Rows", "otherwise, if that slot was its home, a note comes there");
        OverflowRows x = Made.tight();
        // The head of 12 cells, where 11 are free without the old head and piece.
        Made.write(x, Check.row(1, 10));
        check.where(x, 1, 0, 0, 1, 0);
        check.slot(x, 0, 0, 3, 1, 1);
        check.slot(x, 1, 0, 1, 1, 12);
        check.page(x, 0, 10, 4, 2, 0, 1, 1);
    }

    private static void noteThenHead() {
        check.sentence("Rows", "and the new head is placed");
        OverflowRows x = Made.full();
        x.delete(18);
        x.delete(2);
        x.append(20, 2);
        check.where(x, 20, 0, 2, 1, 0);
        OverflowRows y = Made.full();
        y.delete(0);
        y.append(29, 2);
        check.where(y, 29, 9, 2, 0, 0);
        check.page(y, 9, 3, 3, 2, 0, 1, 0);
    }

    private static void slotIsEmpty() {
        check.sentence("Rows", "if it was not its home, the slot is empty, and the new head is placed");
        OverflowRows x = Made.away(20);
        Made.write(x, Check.row(1, 15));
        x.delete(4);
        due("free at home, one too few", x.page(0, 0), 4);
        due("append(20, 3)", x.append(20, 3), 4);
        check.where(x, 20, 0, 2, 2, 0);
        check.slot(x, 9, 1, 0, NONE, 0);
        check.page(x, 9, 5, 4, 3, 0, 0, 1);
        due("free at home then", x.page(0, 0), 4);
        due("notes", x.count(2), 1);
    }

    private static void comesHome() {
        check.sentence("Rows", "(but if the page of its home has enough free room without the note, "
                + "the head comes home instead of the note)");
        OverflowRows x = Made.away(20);
        Made.write(x, Check.row(1, 14));
        x.delete(4);
        due("free at home, just enough without the note", x.page(0, 0), 5);
        due("append(20, 3)", x.append(20, 3), 4);
        check.where(x, 20, 0, 2, 0, 2);
        check.page(x, 0, 0, 3, 3, 0, 0, 0);
        check.slot(x, 9, 1, 0, NONE, 0);
        due("notes", x.count(2), 0);

        OverflowRows y = Made.away(21);
        y.delete(0);
        Made.write(y, Check.row(3, 14));
        y.append(21, 3);
        check.where(y, 21, 1, 2, 1, 2);

        OverflowRows z = Made.away(21);
        z.delete(0);
        Made.write(z, Check.row(3, 15));
        z.append(21, 3);
        check.where(z, 21, 1, 2, 0, 0);
    }

    private static void thenPieces() {
        check.sentence("Rows", "Then its pieces are placed.");
        OverflowRows x = Made.tight();
        x.set(HEAD, 10);
        Made.write(x, Check.row(1, 19));
        // 10 cells are free beside the note, just enough for a piece of 9 letters.
        check.where(x, 1, 0, 0, 1, 0);
        check.pieces(x, 1, new int[] {0, 1, 9});
        OverflowRows y = Made.tight();
        y.set(HEAD, 10);
        Made.write(y, Check.row(1, 20));
        check.where(y, 1, 0, 0, 1, 0);
        check.pieces(y, 1, new int[] {1, 1, 10});
        OverflowRows z = Made.tight();
        z.set(HEAD, 4);
        Made.write(z, Check.row(1, 8));
        check.where(z, 1, 0, 0, 0, 0);
        check.pieces(z, 1, new int[] {0, 1, 4});
        due("free", z.page(0, 0), 0);
    }

    /** A write() of a row that cannot be written leaves all but the pad and the history. */
    private static void notWritten(OverflowRows x, String text) {
        String before = View.rows(x);
        due("write() of " + text, Check.write(x, text), 0);
        check.same("write() of " + text, View.rows(x), before);
    }

    private static void newRowIsNotWritten() {
        check.sentence("Rows", "If a thing cannot be placed on the way, the row is not written: "
                + "all is as it was before.");
        notWritten(Made.twenty(), Check.row(30, 3));
        OverflowRows x = Made.twenty();
        x.set(HEAD, 0);
        x.set(PIECE, 12);
        notWritten(x, Check.row(30, 4));
        x.set(PIECE, 3);
        // The head leaves 2 cells on page 0, nine pieces fill the other pages; the last piece takes 3 cells.
        notWritten(x, Check.row(30, 29));
        due("write() with a last piece of 2 cells", Check.write(x, Check.row(30, 28)), 1);
        due("pieces", x.row(30, 7), 10);
        due("free", x.count(4), 0);
    }

    private static void oldRowIsNotWritten() {
        check.sentence("Rows", "If a thing cannot be placed on the way, the row is not written: "
                + "all is as it was before.");
        notWritten(Made.full(), Check.row(20, 3));
        notWritten(Made.full(), Check.row(7, 17));
        OverflowRows x = Made.stuffed();
        notWritten(x, Check.row(0, 40));
        notWritten(x, Check.row(7, 39));
        String before = View.rows(x);
        due("append(7, 0)", x.append(7, 0), NOT_POSSIBLE);
        check.same("append(7, 0)", View.rows(x), before);
        due("most(0)", x.most(0) < 40 ? 1 : 0, 1);
        due("write() of as many as can be", Check.write(x, Check.row(0, x.most(0))), 1);
    }

    private static void movedRowIsNotWritten() {
        check.sentence("Rows", "If a thing cannot be placed on the way, the row is not written: "
                + "all is as it was before.");
        OverflowRows x = Made.away(20);
        notWritten(x, Check.row(20, 4));
        x.set(HEAD, 3);
        notWritten(x, Check.row(20, 6));
        x.set(HEAD, 16);
        Made.write(x, Check.row(1, 14));
        x.set(HEAD, 4);
        x.set(PIECE, 12);
        // The head of 6 could come home; then 5 cells are free on page 9, and the piece takes 6.
        notWritten(x, Check.row(20, 9));
        check.where(x, 20, 0, 2, 9, 1);
        due("write() with a piece of 5", Check.write(x, Check.row(20, 8)), 1);
        check.where(x, 20, 0, 2, 0, 2);
        check.pieces(x, 20, new int[] {9, 1, 4});
    }

    // ---- reading, packing

    private static void reading() {
        check.sentence("Reading", "its cost is 1, and 1 more for each step to another page than the one before");
        OverflowRows x = Made.with("1=", Check.row(2, 22));
        due("a head alone", x.row(1, 8), 1);
        due("all on one page", x.row(2, 8), 1);
        Made.write(x, Check.row(3, 20));
        due("two pages, one step", x.row(3, 8), 2);
        OverflowRows y = Made.withSettings(16, 12);
        Made.write(y, Check.row(1, 16) + ";" + Check.row(2, 13));
        y.set(HEAD, 0);
        Made.write(y, Check.row(5, 16));
        due("there and back again", y.row(5, 8), 3);
        OverflowRows z = Made.moved(20);
        due("home and head", z.row(20, 8), 2);
        z.set(HEAD, 3);
        z.append(20, 3);
        check.pieces(z, 20, new int[] {0, 3, 1});
        due("home, head, and a piece at home", z.row(20, 8), 3);
        z.append(20, 4);
        check.pieces(z, 20, new int[] {0, 3, 2});
        z.append(20, 5);
        check.pieces(z, 20, new int[] {9, 3, 3});
        due("home, head, and a piece beside the head", z.row(20, 8), 2);
    }

    private static void readingInOrder() {
        check.sentence("Reading", "Reading a row goes to the page of its home, then to the page of its head, "
                + "then to those of its pieces, in order");
        OverflowRows x = Made.moved(20);
        x.delete(10);
        x.set(HEAD, 3);
        Made.write(x, Check.row(20, 3 + 8 + 8 + 2));
        // 3 cells are free on the page of its home, 18 on page 5.
        check.where(x, 20, 0, 2, 9, 1);
        check.pieces(x, 20, new int[] {5, 0, 8}, new int[] {5, 3, 8}, new int[] {0, 3, 2});
        due("from 0 to 9, to 5, and to 0 again", x.row(20, 8), 4);
        x.delete(0);
        Made.write(x, Check.row(20, 3 + 8 + 8 + 2));
        check.pieces(x, 20, new int[] {0, 0, 8}, new int[] {0, 3, 8}, new int[] {0, 4, 2});
        due("from 0 to 9, and to 0 again", x.row(20, 8), 3);
        Made.write(x, Check.row(20, 3));
        due("from 0 to 9", x.row(20, 8), 2);
        due("sum", x.count(5), 26 + 2);
        due("greatest", x.count(7), 2);
    }

    private static void packing() {
        check.sentence("Packing", "all pages are empty, and all rows are written as new ones");
        due("pack() without rows", new OverflowRows().pack(), 0);
        OverflowRows x = Made.away(21);
        x.delete(0);
        x.delete(5);
        due("pack()", x.pack(), 9);
        due("notes", x.count(2), 0);
        due("gaps", x.page(0, 5), 0);
        // The rows 1 and 2 are on page 0 now, and so on; rows 20 and 22 come beside them.
        check.where(x, 1, 0, 0, 0, 0);
        check.where(x, 2, 0, 1, 0, 1);
        check.where(x, 3, 1, 0, 1, 0);
        check.where(x, 20, 0, 2, 0, 2);
        check.where(x, 21, 8, 2, 8, 2);
        check.where(x, 22, 1, 2, 1, 2);
    }

    private static void packingAsTheyAre() {
        check.sentence("Packing", "with HEAD and PIECE as they are, by ascending keys");
        OverflowRows x = Made.with("99=abcdefgh", "0=abcdefg", "50=abc");
        x.set(HEAD, 2);
        x.set(PIECE, 5);
        x.pack();
        check.where(x, 0, 0, 0, 0, 0);
        check.pieces(x, 0, new int[] {0, 1, 5});
        check.where(x, 50, 0, 2, 0, 2);
        check.pieces(x, 50, new int[] {0, 3, 1});
        check.where(x, 99, 0, 4, 0, 4);
        check.pieces(x, 99, new int[] {0, 5, 5}, new int[] {0, 6, 1});
        for (int head = 0; head <= 16; head++) {
            OverflowRows y = Made.with(Check.row(1, 20), Check.row(2, 3));
            int piece = 1 + head % 12;
            y.set(HEAD, head);
            y.set(PIECE, piece);
            y.pack();
            due("letters of the head with HEAD " + head, y.row(1, 6), head);
            due("letters of a piece with PIECE " + piece, y.piece(1, 0, 2), Math.min(piece, 20 - head));
            due("letters of a head of 3", y.row(2, 6), Math.min(head, 3));
            due("HEAD", y.count(8), head);
            due("PIECE", y.count(9), piece);
        }
    }
}
