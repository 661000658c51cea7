import java.util.List;
import java.util.function.Supplier;
import java.util.function.ToIntFunction;

/** 'Conventions': the order of the errors, that a call that returns one changes nothing, and calls that look only. */
public final class ErrorsTest {
    private static final int NO_SUCH = -1, BAD_VALUE = -2, BAD_TEXT = -3, TOO_MANY = -4, NOT_POSSIBLE = -5, NONE = -6;
    private static final int HEAD = 0, PIECE = 1;
    private static final int LEAST = Integer.MIN_VALUE, GREATEST = Integer.MAX_VALUE;
    private static final Check check = new Check();

    public static void main(String[] args) {
        orderOfAppend();
        orderOfRowAndPiece();
        orderOfPageAndSlot();
        orderOfIfPacked();
        orderOfMost();
        orderOfPut();
        orderOfRestore();
        viewsTellStatesApart();
        for (Supplier<OverflowRows> made : states()) {
            refusedChanges(made);
            refusedLooks(made);
            refusedTexts(made);
            refusedStates(made);
            looks(made);
            whatIfs(made);
        }
        refusedBadText();
        refusedTooMany();
        refusedNotPossible();
        check.finish();
    }

    private static void due(String call, long got, long want) {
        check.due(call, got, want);
    }

    // ---- the order of the errors

    private static void order(String call) {
        check.sentence("Conventions, of " + call,
                "it names its errors in the order in which they are checked, and the first one that applies is returned");
    }

    private static void orderOfAppend() {
        order("append");
        OverflowRows x = Made.stuffed();
        due("append(50, 26): no row, bad letter", x.append(50, 26), NO_SUCH);
        due("append(100, -1): no row, bad letter", x.append(100, -1), NO_SUCH);
        due("append(0, 26): bad letter, 40 letters, cannot be written", x.append(0, 26), BAD_VALUE);
        due("append(0, -1): bad letter, 40 letters, cannot be written", x.append(0, -1), BAD_VALUE);
        due("append(7, 26): bad letter, cannot be written", x.append(7, 26), BAD_VALUE);
        due("append(0, 0): 40 letters, cannot be written", x.append(0, 0), TOO_MANY);
        due("append(7, 0): cannot be written", x.append(7, 0), NOT_POSSIBLE);
        x.set(HEAD, 6);
        x.set(PIECE, 8);
        due("append(7, 0): can be written", x.append(7, 0), 40);
    }

    private static void orderOfRowAndPiece() {
        order("row, piece");
        OverflowRows x = Made.with("1=abcdefg");
        due("row(2, 10)", x.row(2, 10), NO_SUCH);
        due("row(2, -1)", x.row(2, -1), NO_SUCH);
        due("row(1, 10)", x.row(1, 10), BAD_VALUE);
        due("piece(2, 0, 3)", x.piece(2, 0, 3), NO_SUCH);
        due("piece(1, 1, 3)", x.piece(1, 1, 3), NO_SUCH);
        due("piece(1, -1, -1)", x.piece(1, -1, -1), NO_SUCH);
        due("piece(1, 0, 3)", x.piece(1, 0, 3), BAD_VALUE);
        due("letter(2, 9)", x.letter(2, 9), NO_SUCH);
    }

    private static void orderOfPageAndSlot() {
        order("page, slot");
        OverflowRows x = Made.with("1=;2=");
        x.delete(1);
        due("page(10, 6)", x.page(10, 6), NO_SUCH);
        due("page(-1, -1)", x.page(-1, -1), NO_SUCH);
        due("page(9, 6)", x.page(9, 6), BAD_VALUE);
        due("slot(10, 0, 3)", x.slot(10, 0, 3), NO_SUCH);
        due("slot(0, 2, 3)", x.slot(0, 2, 3), NO_SUCH);
        due("slot(0, -1, -1)", x.slot(0, -1, -1), NO_SUCH);
        due("slot(0, 1, 3)", x.slot(0, 1, 3), BAD_VALUE);
        due("slot(0, 0, 3) of an empty slot", x.slot(0, 0, 3), BAD_VALUE);
    }

    private static void orderOfIfPacked() {
        order("ifPacked");
        OverflowRows x = Made.stuffed();
        due("ifPacked(0, 0)", x.ifPacked(0, 0), NOT_POSSIBLE);
        due("ifPacked(0, 3)", x.ifPacked(0, 3), BAD_VALUE);
        due("ifPacked(0, -1)", x.ifPacked(0, -1), BAD_VALUE);
        due("ifPacked(-1, 0)", x.ifPacked(-1, 0), BAD_VALUE);
        due("ifPacked(17, 0)", x.ifPacked(17, 0), BAD_VALUE);
    }

    private static void orderOfMost() {
        order("most");
        OverflowRows x = Made.full();
        due("most(99)", x.most(99), NONE);
        due("most(100)", x.most(100), BAD_VALUE);
        due("most(-1)", x.most(-1), BAD_VALUE);
    }

    private static void orderOfPut() {
        order("put");
        OverflowRows x = filled();
        due("put(0) to a full pad", x.put(0), BAD_VALUE);
        due("put(32) to a full pad", x.put(32), BAD_VALUE);
        due("put(a, nothing, a) to a full pad", x.put(0x610061), BAD_VALUE);
        due("put(a) to a full pad", x.put('a'), TOO_MANY);
    }

    private static void orderOfRestore() {
        order("restore");
        OverflowRows x = new OverflowRows();
        due("restore(-1)", x.restore(-1), BAD_VALUE);
        due("restore(2)", x.restore(2), BAD_VALUE);
        due("restore(1)", x.restore(1), NOT_POSSIBLE);
    }

    // ---- a call that returns an error changes nothing

    /** Nothing in it but what is new; much in it; all full. */
    private static Iterable<Supplier<OverflowRows>> states() {
        return List.of(OverflowRows::new, ErrorsTest::used, ErrorsTest::filled);
    }

    private static OverflowRows used() {
        OverflowRows x = Made.away(20);
        x.save(0);
        x.set(PIECE, 3);
        x.delete(3);
        x.save(1);
        Made.write(x, "29=;3=abc");
        Check.put(x, "7=xyz");
        return x;
    }

    private static OverflowRows filled() {
        OverflowRows x = Made.full();
        x.save(1);
        Check.put(x, Check.row(5, 40) + ";" + Check.row(6, 35));
        return x;
    }

    private static void refused(Supplier<OverflowRows> made, String call, int want, ToIntFunction<OverflowRows> done) {
        check.sentence("Conventions", "A call that returns an error changes nothing.");
        unchanged(made, call, want, done);
    }

    private static void unchanged(Supplier<OverflowRows> made, String call, int want, ToIntFunction<OverflowRows> done) {
        OverflowRows x = made.get();
        due(call, done.applyAsInt(x), want);
        check.same(call, View.ofAll(x), View.ofAll(made.get()));
    }

    /** Without this, the other tests of this file could compare too little. */
    private static void viewsTellStatesApart() {
        check.sentence("Conventions", "A call that returns an error changes nothing.");
        differs("pad", x -> x.put('a'));
        differs("pad of the same length", x -> x.wipe() + x.put(Check.number("7=xyy")));
        differs("latest change", x -> x.append(20, 3));
        differs("history", x -> x.set(PIECE, 3));
        differs("undo", OverflowRows::undo);
        differs("saved 0", x -> x.save(0));
        differs("saved 1", x -> x.save(1));
        differs("HEAD", x -> x.set(HEAD, 5));
    }

    private static void differs(String what, ToIntFunction<OverflowRows> done) {
        OverflowRows x = used();
        done.applyAsInt(x);
        due("the views differ in their " + what, View.ofAll(x).equals(View.ofAll(used())) ? 0 : 1, 1);
    }

    private static void refusedChanges(Supplier<OverflowRows> made) {
        int[][] pairs = {{-1, 5}, {2, 5}, {LEAST, 5}, {GREATEST, 5}, {HEAD, -1}, {HEAD, 17}, {HEAD, LEAST},
            {HEAD, GREATEST}, {PIECE, 0}, {PIECE, 13}, {PIECE, LEAST}, {PIECE, GREATEST}};
        for (int[] pair : pairs) {
            refused(made, "set(" + pair[0] + ", " + pair[1] + ")", BAD_VALUE, x -> x.set(pair[0], pair[1]));
        }
        for (int key : new int[] {-1, 77, 100, LEAST, GREATEST}) {
            refused(made, "append(" + key + ", 0)", NO_SUCH, x -> x.append(key, 0));
            refused(made, "append(" + key + ", 26)", NO_SUCH, x -> x.append(key, 26));
            refused(made, "delete(" + key + ")", NO_SUCH, x -> x.delete(key));
        }
        for (int letter : new int[] {-1, 26, LEAST, GREATEST}) {
            refused(() -> beginWith(made, 20), "append(20, " + letter + ")", BAD_VALUE, x -> x.append(20, letter));
        }
    }

    /** The object with that row, if it is not there already. */
    private static OverflowRows beginWith(Supplier<OverflowRows> made, int key) {
        OverflowRows x = made.get();
        if (x.row(key, 0) == NO_SUCH) {
            Made.write(x, key + "=");
        }
        return x;
    }

    private static void refusedLooks(Supplier<OverflowRows> made) {
        for (int key : new int[] {-1, 77, 100, LEAST, GREATEST}) {
            refused(made, "row(" + key + ", 0)", NO_SUCH, x -> x.row(key, 0));
            refused(made, "letter(" + key + ", 0)", NO_SUCH, x -> x.letter(key, 0));
            refused(made, "piece(" + key + ", 0, 0)", NO_SUCH, x -> x.piece(key, 0, 0));
        }
        for (int page : new int[] {-1, 10, LEAST, GREATEST}) {
            refused(made, "page(" + page + ", 0)", NO_SUCH, x -> x.page(page, 0));
            refused(made, "slot(" + page + ", 0, 0)", NO_SUCH, x -> x.slot(page, 0, 0));
        }
        for (int place : new int[] {-1, 40, LEAST, GREATEST}) {
            refused(made, "slot(0, " + place + ", 0)", NO_SUCH, x -> x.slot(0, place, 0));
            refused(made, "letter(20, " + place + ")", NO_SUCH, x -> x.letter(20, place));
            refused(made, "piece(20, " + place + ", 0)", NO_SUCH, x -> x.piece(20, place, 0));
            refused(made, "key(" + place + ")", NO_SUCH, x -> x.key(place));
        }
        for (int what : new int[] {-1, 12, LEAST, GREATEST}) {
            refused(made, "count(" + what + ")", BAD_VALUE, x -> x.count(what));
            refused(made, "page(0, " + what + ")", BAD_VALUE, x -> x.page(0, what));
            refused(made, "ifPacked(0, " + what + ")", BAD_VALUE, x -> x.ifPacked(0, what));
        }
        for (int head : new int[] {-1, 17, LEAST, GREATEST}) {
            refused(made, "ifPacked(" + head + ", 0)", BAD_VALUE, x -> x.ifPacked(head, 0));
        }
        for (int key : new int[] {-1, 100, LEAST, GREATEST}) {
            refused(made, "most(" + key + ")", BAD_VALUE, x -> x.most(key));
        }
    }

    private static void refusedTexts(Supplier<OverflowRows> made) {
        for (long characters : new long[] {0, 32, 127, -1, 0x610061, 0x6100, Long.MIN_VALUE, Long.MAX_VALUE}) {
            refused(made, "put(" + characters + ")", BAD_VALUE, x -> x.put(characters));
        }
    }

    private static void refusedStates(Supplier<OverflowRows> made) {
        for (int place : new int[] {-1, 2, LEAST, GREATEST}) {
            refused(made, "save(" + place + ")", BAD_VALUE, x -> x.save(place));
            refused(made, "restore(" + place + ")", BAD_VALUE, x -> x.restore(place));
        }
    }

    private static void refusedBadText() {
        refused(OverflowRows::new, "write()", BAD_TEXT, OverflowRows::write);
        for (String rest : new String[] {";", ";8", "A", ";08=", ";100="}) {
            refused(() -> {
                OverflowRows x = used();
                Check.put(x, rest);
                return x;
            }, "write()", BAD_TEXT, OverflowRows::write);
        }
    }

    private static void refusedTooMany() {
        refused(Made::stuffed, "append(0, 0)", TOO_MANY, x -> x.append(0, 0));
        refused(ErrorsTest::filled, "put(a)", TOO_MANY, x -> x.put('a'));
        refused(() -> {
            OverflowRows x = used();
            Check.put(x, Check.letters(68));
            return x;
        }, "put(8 of them)", TOO_MANY, x -> x.put(Check.number("abcdefgh")));
    }

    private static void refusedNotPossible() {
        refused(Made::stuffed, "append(7, 0)", NOT_POSSIBLE, x -> x.append(7, 0));
        refused(Made::stuffed, "pack()", NOT_POSSIBLE, OverflowRows::pack);
        refused(Made::stuffed, "ifPacked(1, 0)", NOT_POSSIBLE, x -> x.ifPacked(1, 0));
        refused(() -> Made.away(20), "append(20, 3)", NOT_POSSIBLE, x -> x.append(20, 3));
        refused(OverflowRows::new, "undo()", NOT_POSSIBLE, OverflowRows::undo);
        refused(OverflowRows::new, "restore(0)", NOT_POSSIBLE, x -> x.restore(0));
        refused(ErrorsTest::filled, "restore(0)", NOT_POSSIBLE, x -> x.restore(0));
    }

    // ---- calls that only look

    private static void looks(Supplier<OverflowRows> made) {
        check.sentence("The public face", "what there is; nothing changes.");
        for (int what = 0; what < 12; what++) {
            int asked = what;
            unchanged(made, "count(" + what + ")", made.get().count(what), x -> x.count(asked));
            unchanged(made, "row(20, " + what + ")", made.get().row(20, what), x -> x.row(20, asked));
            unchanged(made, "page(0, " + what + ")", made.get().page(0, what), x -> x.page(0, asked));
            unchanged(made, "slot(0, 2, " + what + ")", made.get().slot(0, 2, what), x -> x.slot(0, 2, asked));
            unchanged(made, "piece(3, 0, " + what + ")", made.get().piece(3, 0, what), x -> x.piece(3, 0, asked));
        }
        unchanged(made, "letter(20, 1)", made.get().letter(20, 1), x -> x.letter(20, 1));
        unchanged(made, "key(3)", made.get().key(3), x -> x.key(3));
    }

    private static void whatIfs(Supplier<OverflowRows> made) {
        check.sentence("The public face", "what if; nothing changes.");
        for (int head = 0; head <= 16; head++) {
            for (int what = 0; what < 3; what++) {
                int length = head;
                int asked = what;
                int want = made.get().ifPacked(head, what);
                unchanged(made, "ifPacked(" + head + ", " + what + ")", want, x -> x.ifPacked(length, asked));
            }
        }
        unchanged(made, "bestHead()", made.get().bestHead(), OverflowRows::bestHead);
        for (int key = 0; key < 100; key += 9) {
            int asked = key;
            unchanged(made, "most(" + key + ")", made.get().most(key), x -> x.most(asked));
        }
        check.sentence("Promise 19", "Returns the fault of the pad, NONE if there is none.");
        unchanged(made, "fault()", made.get().fault(), OverflowRows::fault);
    }
}
