/** The boundary cases of promises 20 to 22: each of their sentences that names one has a test here. */
public final class HistoryBoundsTest {
    private static final int NO_SUCH = -1, BAD_VALUE = -2, BAD_TEXT = -3, TOO_MANY = -4, NOT_POSSIBLE = -5;
    private static final int HEAD = 0, PIECE = 1;
    private static final Check check = new Check();

    public static void main(String[] args) {
        undoBringsBack();
        undoLeavesThePad();
        undoLeavesWhatWasSaved();
        undoIsNotRecorded();
        sixStates();
        oldestIsDropped();
        everyChangeIsRecorded();
        alsoIfNothingIsDifferent();
        errorsAreNotRecorded();
        othersAreNotRecorded();
        undoHowMany();
        undoNotPossible();
        saveExcept();
        saveOverwrites();
        saveHowManyRows();
        savePlaces();
        saveNoSuchPlace();
        restoreLast();
        restoreKeeps();
        restoreIsAChange();
        restoreHowManyRows();
        restoreNoSuchPlace();
        restoreNothingSaved();
        check.finish();
    }

    private static void due(String call, long got, long want) {
        check.due(call, got, want);
    }

    // ---- undo

    private static void undoBringsBack() {
        check.sentence("Promise 20", "everything except the pad, the slots of save() and the history "
                + "is as it was before it");
        OverflowRows x = Made.away(20);
        Made.write(x, Check.row(1, 14));
        for (int key = 4; key < 10; key++) {
            x.delete(key);
        }
        String[] before = new String[6];
        before[0] = View.rows(x);
        x.append(20, 3);
        before[1] = View.rows(x);
        x.delete(20);
        before[2] = View.rows(x);
        x.set(HEAD, 3);
        before[3] = View.rows(x);
        x.set(PIECE, 12);
        before[4] = View.rows(x);
        Made.write(x, "99=" + Check.letters(2) + ";3=abcdef");
        before[5] = View.rows(x);
        due("pack()", x.pack(), 8);
        for (int change = 5; change >= 0; change--) {
            due("undo()", x.undo(), change);
            check.same("undo() to state " + change, View.rows(x), before[change]);
        }
        // What was brought back can be changed again, and that does not touch what else is kept.
        x.append(20, 3);
        check.same("append() after all", View.rows(x), before[1]);
        x.undo();
        check.same("undo() after all", View.rows(x), before[0]);
    }

    private static void undoLeavesThePad() {
        check.sentence("Promise 20", "everything except the pad");
        OverflowRows x = Made.with("1=a");
        Check.put(x, "2=b");
        x.undo();
        due("pad after undo()", x.count(10), 3);
        due("write() of it", x.write(), 1);
        due("row(2, 0)", x.row(2, 0), 1);
        due("undo() of write()", x.undo(), 0);
        due("pad, which write() emptied", x.count(10), 0);
        due("write() of nothing", x.write(), BAD_TEXT);
        x.set(HEAD, 3);
        Check.put(x, "3=");
        x.wipe();
        x.undo();
        due("pad, which was wiped", x.count(10), 0);
    }

    private static void undoLeavesWhatWasSaved() {
        check.sentence("Promise 20", "the slots of save()");
        OverflowRows x = Made.with("1=a", "2=b");
        x.save(0);
        due("undo()", x.undo(), 1);
        due("row(2, 0)", x.row(2, 0), NO_SUCH);
        x.save(1);
        due("undo()", x.undo(), 0);
        due("restore(0)", x.restore(0), 2);
        due("restore(1)", x.restore(1), 1);
    }

    private static void undoIsNotRecorded() {
        check.sentence("Promise 20", "Undoes the latest change");
        OverflowRows x = Made.with("1=", "1=a", "1=ab", "1=abc");
        for (int letters = 2; letters >= 0; letters--) {
            due("undo()", x.undo(), letters + 1);
            due("row(1, 0)", x.row(1, 0), letters);
            due("history", x.count(11), letters + 1);
        }
        x.append(1, 5);
        x.append(1, 6);
        due("undo()", x.undo(), 2);
        due("letter(1, 0) of another change", x.letter(1, 0), 5);
        due("row(1, 0)", x.row(1, 0), 1);
    }

    private static void sixStates() {
        check.sentence("Promise 20", "A history of at most 6 states is kept");
        OverflowRows x = new OverflowRows();
        due("history", x.count(11), 0);
        for (int head = 1; head <= 6; head++) {
            x.set(HEAD, 6 + head);
            due("history after " + head, x.count(11), head);
        }
        for (int left = 5; left >= 0; left--) {
            due("undo()", x.undo(), left);
            due("HEAD", x.count(8), 6 + left);
        }
        due("undo() of six, once more", x.undo(), NOT_POSSIBLE);
        due("HEAD as it was first", x.count(8), 6);
    }

    private static void oldestIsDropped() {
        check.sentence("Promise 20", "when one more is recorded, the oldest one is dropped");
        OverflowRows x = new OverflowRows();
        for (int head = 1; head <= 7; head++) {
            x.set(HEAD, 6 + head);
        }
        due("history after 7", x.count(11), 6);
        for (int left = 5; left >= 0; left--) {
            due("undo()", x.undo(), left);
            due("HEAD", x.count(8), 7 + left);
        }
        due("undo() of seven, the seventh time", x.undo(), NOT_POSSIBLE);
        due("HEAD after the first change", x.count(8), 7);
        for (int changes = 1; changes <= 20; changes++) {
            x.set(HEAD, changes % 17);
            due("history after " + changes + " more", x.count(11), Math.min(6, changes));
        }
        due("undo()", x.undo(), 5);
        x.set(PIECE, 1);
        due("history", x.count(11), 6);
        x.set(PIECE, 2);
        due("history", x.count(11), 6);
        int[] pieces = {1, 8, 8, 8, 8, 8};
        int[] heads = {2, 2, 1, 0, 16, 15};
        for (int back = 0; back < 6; back++) {
            due("undo()", x.undo(), 5 - back);
            due("PIECE", x.count(9), pieces[back]);
            due("HEAD", x.count(8), heads[back]);
        }
        due("undo()", x.undo(), NOT_POSSIBLE);
    }

    private static void everyChangeIsRecorded() {
        check.sentence("Promise 20", "each method that is a change, and returns no error, "
                + "records the state before it");
        OverflowRows x = Made.with("1=a");
        due("write()", x.count(11), 1);
        x.save(0);
        x.set(HEAD, 0);
        due("set()", x.count(11), 2);
        x.append(1, 1);
        due("append()", x.count(11), 3);
        x.delete(1);
        due("delete()", x.count(11), 4);
        x.pack();
        due("pack()", x.count(11), 5);
        x.restore(0);
        due("restore()", x.count(11), 6);
        due("undo() of restore()", x.undo() + x.count(0), 5);
        due("undo() of pack()", x.undo() + x.count(0), 4);
        due("undo() of delete()", x.undo() + x.row(1, 0), 3 + 2);
        due("undo() of append()", x.undo() + x.row(1, 0), 2 + 1);
        due("undo() of set()", x.undo() + x.count(8), 1 + 6);
        due("undo() of write()", x.undo() + x.count(0), 0);
    }

    private static void alsoIfNothingIsDifferent() {
        check.sentence("Promise 20", "(also if nothing is different then)");
        OverflowRows x = new OverflowRows();
        x.set(HEAD, 6);
        due("set() of HEAD to what it is", x.count(11), 1);
        x.set(PIECE, 8);
        due("set() of PIECE to what it is", x.count(11), 2);
        x.pack();
        due("pack() without rows", x.count(11), 3);
        x.save(1);
        x.restore(1);
        due("restore() of the same", x.count(11), 4);
        Made.write(x, "1=a");
        Made.write(x, "1=a");
        due("write() of the same", x.count(11), 6);
        due("undo()", x.undo(), 5);
        due("row(1, 0)", x.row(1, 0), 1);
        due("undo()", x.undo(), 4);
        due("row(1, 0)", x.row(1, 0), NO_SUCH);
        OverflowRows y = Made.full();
        y.undo();
        y.undo();
        due("history", y.count(11), 4);
        due("write() of none", Check.write(y, "50=abc"), 0);
        due("history", y.count(11), 5);
        y.pack();
        due("pack() of what is packed", y.count(11), 6);
    }

    private static void errorsAreNotRecorded() {
        check.sentence("Promise 20", "and returns no error");
        OverflowRows x = Made.stuffed();
        for (int change = 0; change < 4; change++) {
            x.undo();
        }
        Made.write(x, Check.row(6, 40) + ";" + Check.row(7, 39));
        x.set(HEAD, 0);
        x.set(PIECE, 1);
        due("history, which has room for one more", x.count(11), 5);
        int[] answers = {x.set(HEAD, 17), x.set(PIECE, 0), x.set(2, 1), x.write(), x.append(99, 0), x.append(0, 26),
            x.append(0, 0), x.append(7, 0), x.delete(99), x.pack(), x.restore(2), x.restore(0), x.save(2)};
        int[] wants = {BAD_VALUE, BAD_VALUE, BAD_VALUE, BAD_TEXT, NO_SUCH, BAD_VALUE,
            TOO_MANY, NOT_POSSIBLE, NO_SUCH, NOT_POSSIBLE, BAD_VALUE, NOT_POSSIBLE, BAD_VALUE};
        for (int call = 0; call < wants.length; call++) {
            due("call " + call, answers[call], wants[call]);
        }
        due("history after errors", x.count(11), 5);
        due("undo()", x.undo(), 4);
        due("PIECE", x.count(9), 8);
    }

    private static void othersAreNotRecorded() {
        check.sentence("Promise 20", "each method that is a change");
        OverflowRows x = Made.with("1=abcdefgh");
        Check.put(x, "2=");
        x.fault();
        x.wipe();
        x.save(0);
        x.save(1);
        x.row(1, 0);
        x.letter(1, 0);
        x.piece(1, 0, 0);
        x.page(0, 0);
        x.slot(0, 0, 0);
        x.count(0);
        x.key(0);
        x.ifPacked(3, 0);
        x.bestHead();
        x.most(1);
        due("history", x.count(11), 1);
        due("undo()", x.undo(), 0);
        due("rows", x.count(0), 0);
    }

    private static void undoHowMany() {
        check.sentence("Promise 20", "Returns how many changes can be undone then");
        OverflowRows x = Made.with("1=");
        due("undo() of one", x.undo(), 0);
        x.set(HEAD, 1);
        x.set(HEAD, 2);
        due("undo() of two", x.undo(), 1);
        due("count(11)", x.count(11), 1);
        due("undo() of the other", x.undo(), 0);
        due("count(11)", x.count(11), 0);
        due("undo() of six and more", Made.thirty().undo(), 5);
    }

    private static void undoNotPossible() {
        check.sentence("Promise 20", "NOT_POSSIBLE if there is none");
        OverflowRows x = new OverflowRows();
        due("undo() of a new object", x.undo(), NOT_POSSIBLE);
        due("undo() again", x.undo(), NOT_POSSIBLE);
        due("history", x.count(11), 0);
        x.set(HEAD, 1);
        x.undo();
        due("undo() when all is undone", x.undo(), NOT_POSSIBLE);
        due("HEAD", x.count(8), 6);
        x.save(0);
        due("undo() after save()", x.undo(), NOT_POSSIBLE);
        x.set(HEAD, 2);
        due("undo() of a change after that", x.undo(), 0);
    }

    // ---- save

    private static void saveExcept() {
        check.sentence("Promise 21", "Saves everything except the pad, the history and what was saved");
        OverflowRows x = Made.away(20);
        x.set(PIECE, 3);
        Check.put(x, "1=abc");
        String before = View.rows(x);
        x.save(0);
        check.same("save(0)", View.rows(x), before);
        due("pad after save()", x.count(10), 5);
        due("history after save()", x.count(11), 6);
        x.wipe();
        Check.put(x, "3=a");
        x.set(HEAD, 0);
        x.delete(20);
        x.delete(0);
        x.save(1);
        x.restore(0);
        check.same("restore(0)", View.rows(x), before);
        due("pad after restore()", x.count(10), 3);
        due("history after restore()", x.count(11), 6);
        due("undo()", x.undo(), 5);
        due("rows from before restore()", x.count(0), 28);
        due("restore(1), saved after the other", x.restore(1), 28);
    }

    private static void saveOverwrites() {
        check.sentence("Promise 21", "and overwrites what was saved at this place");
        OverflowRows x = Made.with("1=a");
        x.save(0);
        x.save(1);
        Made.write(x, "2=b");
        x.save(0);
        Made.write(x, "3=c");
        due("restore(0)", x.restore(0), 2);
        due("restore(1)", x.restore(1), 1);
        x.save(0);
        due("restore(0), saved again", x.restore(0), 1);
        due("row(2, 0)", x.row(2, 0), NO_SUCH);
    }

    private static void saveHowManyRows() {
        check.sentence("Promise 21", "Returns how many rows there are");
        due("save(0) without rows", new OverflowRows().save(0), 0);
        due("save(1) without rows", new OverflowRows().save(1), 0);
        due("save(1) of one", Made.with("1=").save(1), 1);
        due("save(0) of thirty", Made.thirty().save(0), 30);
    }

    private static void savePlaces() {
        check.sentence("Promises 21 and 22", "`place`: 0 or 1");
        OverflowRows x = Made.with("1=");
        due("save(1)", x.save(1), 1);
        Made.write(x, "2=;3=");
        due("save(0)", x.save(0), 3);
        x.delete(1);
        due("restore(1)", x.restore(1), 1);
        due("restore(0)", x.restore(0), 3);
        due("save(1) of the other's", x.save(1), 3);
        due("restore(1)", x.restore(1), 3);
        x.delete(2);
        due("save(0)", x.save(0), 2);
        due("restore(1), which stays", x.restore(1), 3);
        due("restore(0)", x.restore(0), 2);
    }

    private static void saveNoSuchPlace() {
        check.sentence("Promise 21", "BAD_VALUE if there is no such place");
        OverflowRows x = Made.with("1=");
        for (int place : new int[] {-1, 2, Integer.MIN_VALUE, Integer.MAX_VALUE}) {
            due("save(" + place + ")", x.save(place), BAD_VALUE);
        }
        due("restore(0)", x.restore(0), NOT_POSSIBLE);
        due("restore(1)", x.restore(1), NOT_POSSIBLE);
    }

    // ---- restore

    private static void restoreLast() {
        check.sentence("Promise 22", "Restores what was saved last at a place");
        OverflowRows x = Made.moved(20);
        x.save(1);
        x.append(20, 3);
        x.set(PIECE, 1);
        x.save(1);
        String saved = View.rows(x);
        x.delete(20);
        x.delete(0);
        x.set(HEAD, 2);
        x.pack();
        x.save(0);
        due("restore(1)", x.restore(1), 29);
        check.same("restore(1)", View.rows(x), saved);
        // Page 9 has room for a head of 16 letters, page 0 for one piece of one letter.
        due("most(20)", x.most(20), 17);
        OverflowRows y = new OverflowRows();
        y.save(0);
        Made.write(y, "1=");
        due("restore(0) of no rows", y.restore(0), 0);
        check.same("restore(0)", View.rows(y), View.rows(new OverflowRows()));
    }

    private static void restoreKeeps() {
        check.sentence("Promise 22", "which keeps it");
        OverflowRows x = Made.with("1=abc");
        x.save(0);
        String saved = View.rows(x);
        for (int time = 0; time < 3; time++) {
            x.append(1, time);
            Made.write(x, "2=;1=");
            due("restore(0)", x.restore(0), 1);
            check.same("restore(0)", View.rows(x), saved);
        }
        x.append(1, 3);
        x.undo();
        x.undo();
        due("restore(0) after undo()", x.restore(0), 1);
        check.same("restore(0) after undo()", View.rows(x), saved);
    }

    private static void restoreIsAChange() {
        check.sentence("Promise 22", "This is a change.");
        OverflowRows x = Made.with("1=a");
        x.save(1);
        Made.write(x, "2=bc");
        String before = View.rows(x);
        x.restore(1);
        due("history", x.count(11), 3);
        due("undo()", x.undo(), 2);
        check.same("undo() of restore(1)", View.rows(x), before);
        for (int time = 0; time < 6; time++) {
            x.restore(1);
        }
        due("history of restore() alone", x.count(11), 6);
        for (int time = 0; time < 6; time++) {
            x.undo();
        }
        check.same("undo() of all of them", View.rows(x), before);
        due("undo() once more", x.undo(), NOT_POSSIBLE);
    }

    private static void restoreHowManyRows() {
        check.sentence("Promise 22", "Returns how many rows there are then");
        OverflowRows x = new OverflowRows();
        x.save(0);
        Made.write(x, "1=;2=");
        due("restore(0)", x.restore(0), 0);
        OverflowRows y = Made.thirty();
        y.save(1);
        y.delete(0);
        due("restore(1)", y.restore(1), 30);
        due("write() of a 31st", Check.write(y, "99="), 0);
    }

    private static void restoreNoSuchPlace() {
        check.sentence("Promise 22", "BAD_VALUE if there is no such place");
        OverflowRows x = Made.with("1=");
        for (int place : new int[] {-1, 2, Integer.MIN_VALUE, Integer.MAX_VALUE}) {
            due("restore(" + place + "), nothing saved", x.restore(place), BAD_VALUE);
        }
        x.save(0);
        x.save(1);
        for (int place : new int[] {-1, 2, Integer.MIN_VALUE, Integer.MAX_VALUE}) {
            due("restore(" + place + ")", x.restore(place), BAD_VALUE);
        }
        due("restore(0)", x.restore(0), 1);
        due("restore(1)", x.restore(1), 1);
    }

    private static void restoreNothingSaved() {
        check.sentence("Promise 22", "NOT_POSSIBLE if nothing was saved there");
        OverflowRows x = Made.with("1=");
        due("restore(0)", x.restore(0), NOT_POSSIBLE);
        due("restore(1)", x.restore(1), NOT_POSSIBLE);
        x.save(1);
        due("restore(0), only the other saved", x.restore(0), NOT_POSSIBLE);
        due("restore(1)", x.restore(1), 1);
        OverflowRows y = Made.with("1=");
        y.save(0);
        due("restore(1), only the other saved", y.restore(1), NOT_POSSIBLE);
        due("history", y.count(11), 1);
    }
}
