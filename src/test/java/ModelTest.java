/** Many made-up runs of calls, each answer compared with that of the Model. */
public final class ModelTest {
    private static final int RUNS = 300;
    private static final int CALLS = 512;
    private static final int[] WILD = {Integer.MIN_VALUE, Integer.MIN_VALUE + 1, -65536, -1, 0, 1, 2, 9, 10, 39, 40,
        99, 100, 255, 256, 65536, Integer.MAX_VALUE - 1, Integer.MAX_VALUE};
    private static final Check check = new Check();

    // Few long rows, many short ones, and some that crowd the pages, so that heads move and come home.
    private static final int[] KEYS = {8, 14, 45, 24, 30, 12};
    private static final int[] SHORTEST = {0, 0, 0, 0, 0, 25};
    private static final int[] LONGEST = {40, 40, 12, 20, 16, 40};

    private final Model model = new Model();
    private final OverflowRows x = new OverflowRows();
    private final int run;
    private long seed;

    private ModelTest(int run) {
        this.run = run;
        seed = run * 0x9E3779B97F4A7C15L + 12345;
    }

    public static void main(String[] args) {
        for (int run = 0; run < RUNS; run++) {
            new ModelTest(run).go();
        }
        check.finish();
    }

    /** The same numbers every time: the tests must not depend on chance. */
    private int below(int bound) {
        seed = seed * 6364136223846793005L + 1442695040888963407L;
        return (int) ((seed >>> 33) % bound);
    }

    private void due(String call, long got, long want) {
        check.due("run " + run + ": " + call, got, want);
    }

    private void go() {
        int calls = 0;
        while (calls < CALLS) {
            calls += change();
            for (int i = 0; i < 3; i++) {
                calls += look();
            }
            if (below(8) == 0) {
                calls += wildLook();
            }
        }
        compareAll();
    }

    private int someKey() {
        return below(40) == 0 ? below(104) - 2 : below(KEYS[run % KEYS.length]);
    }

    private String someRow() {
        int shortest = SHORTEST[run % SHORTEST.length];
        int longest = LONGEST[run % LONGEST.length];
        int letters = below(25) < longest / 8 ? longest : shortest + below(longest - shortest + 1);
        StringBuilder text = new StringBuilder().append(Math.min(99, Math.max(0, someKey()))).append('=');
        for (int i = 0; i < letters; i++) {
            text.append((char) ('a' + below(26)));
        }
        return text.toString();
    }

    private String someText() {
        StringBuilder text = new StringBuilder(someRow());
        for (int i = below(6); i > 0; i--) {
            String row = someRow();
            if (text.length() + row.length() < 80) {
                text.append(';').append(row);
            }
        }
        if (below(12) == 0) {
            text.setCharAt(below(text.length()), ";=0159azA~".charAt(below(10)));
        }
        return text.toString();
    }

    private int change() {
        int key = someKey();
        switch (below(14)) {
            case 0: {
                int setting = below(9) == 0 ? below(5) - 1 : below(2);
                int value = run % KEYS.length == 3 || run % KEYS.length == 4 ? below(7) + 10 : below(19) - 1;
                due("set(" + setting + ", " + value + ")", x.set(setting, value), model.set(setting, value));
                return 1;
            }
            case 1: case 2: case 3: case 4:
                return text(someText());
            case 5: case 6: case 7: case 8: {
                int letter = below(20) == 0 ? below(30) - 2 : below(26);
                due("append(" + key + ", " + letter + ")", x.append(key, letter), model.append(key, letter));
                return 1;
            }
            case 9:
                due("delete(" + key + ")", x.delete(key), model.delete(key));
                return 1;
            case 10:
                if (below(6) == 0) {
                    due("pack()", x.pack(), model.pack());
                }
                return 1;
            case 11:
                due("undo()", x.undo(), model.undo());
                return 1;
            case 12: {
                int place = below(12) == 0 ? below(4) - 1 : below(2);
                due("save(" + place + ")", x.save(place), model.save(place));
                return 1;
            }
            default: {
                int place = below(12) == 0 ? below(4) - 1 : below(2);
                if (below(6) == 0) {
                    due("restore(" + place + ")", x.restore(place), model.restore(place));
                }
                return 1;
            }
        }
    }

    private int text(String text) {
        int calls = 0;
        for (int from = 0; from < text.length(); from += 8) {
            long number = Check.number(text.substring(from, Math.min(text.length(), from + 8)));
            if (below(200) == 0) {
                number ^= 1L << below(64);
            }
            due("put(" + number + ")", x.put(number), model.put(number));
            calls++;
        }
        due("fault()", x.fault(), model.fault());
        due("write()", x.write(), model.write());
        if (below(2) == 0) {
            due("wipe()", x.wipe(), model.wipe());
        }
        return calls + 3;
    }

    private int look() {
        int key = someKey();
        int what = below(14) - 1;
        int page = below(12) - 1;
        switch (below(10)) {
            case 0:
                due("row(" + key + ", " + what + ")", x.row(key, what), model.row(key, what));
                return 1;
            case 1: {
                int place = below(43) - 1;
                due("letter(" + key + ", " + place + ")", x.letter(key, place), model.letter(key, place));
                return 1;
            }
            case 2: {
                int piece = below(8) - 1;
                int part = below(5) - 1;
                due("piece(" + key + ", " + piece + ", " + part + ")",
                        x.piece(key, piece, part), model.piece(key, piece, part));
                return 1;
            }
            case 3: {
                int part = below(8) - 1;
                due("page(" + page + ", " + part + ")", x.page(page, part), model.page(page, part));
                return 1;
            }
            case 4: {
                int slot = below(10) - 1;
                int part = below(5) - 1;
                due("slot(" + page + ", " + slot + ", " + part + ")",
                        x.slot(page, slot, part), model.slot(page, slot, part));
                return 1;
            }
            case 5:
                due("count(" + what + ")", x.count(what), model.count(what));
                return 1;
            case 6: {
                int place = below(33) - 1;
                due("key(" + place + ")", x.key(place), model.key(place));
                return 1;
            }
            case 7: {
                int head = below(19) - 1;
                int part = below(5) - 1;
                due("ifPacked(" + head + ", " + part + ")", x.ifPacked(head, part), model.ifPacked(head, part));
                return 1;
            }
            case 8:
                due("bestHead()", x.bestHead(), model.bestHead());
                return 1;
            default:
                due("most(" + key + ")", x.most(key), model.most(key));
                return 1;
        }
    }

    private int wild() {
        return WILD[below(WILD.length)];
    }

    /** Arguments from far outside must be answered, too. */
    private int wildLook() {
        int a = wild();
        int b = wild();
        int c = wild();
        String arguments = "(" + a + ", " + b + ", " + c + ")";
        due("row" + arguments, x.row(a, b), model.row(a, b));
        due("letter" + arguments, x.letter(a, b), model.letter(a, b));
        due("piece" + arguments, x.piece(a, b, c), model.piece(a, b, c));
        due("page" + arguments, x.page(a, b), model.page(a, b));
        due("slot" + arguments, x.slot(a, b, c), model.slot(a, b, c));
        due("count" + arguments, x.count(a), model.count(a));
        due("key" + arguments, x.key(a), model.key(a));
        due("ifPacked" + arguments, x.ifPacked(a, b), model.ifPacked(a, b));
        due("most" + arguments, x.most(a), model.most(a));
        return 9;
    }

    private void compareAll() {
        for (int what = 0; what < 12; what++) {
            due("count(" + what + ")", x.count(what), model.count(what));
        }
        for (int page = 0; page < 10; page++) {
            for (int what = 0; what < 6; what++) {
                due("page(" + page + ", " + what + ")", x.page(page, what), model.page(page, what));
            }
            for (int slot = 0; slot <= 40; slot++) {
                for (int what = 0; what < 3; what++) {
                    due("slot(" + page + ", " + slot + ", " + what + ")",
                            x.slot(page, slot, what), model.slot(page, slot, what));
                }
            }
        }
        for (int key = 0; key < 100; key++) {
            compareRow(key);
        }
    }

    private void compareRow(int key) {
        for (int what = 0; what < 10; what++) {
            due("row(" + key + ", " + what + ")", x.row(key, what), model.row(key, what));
        }
        for (int place = 0; place <= 40; place++) {
            due("letter(" + key + ", " + place + ")", x.letter(key, place), model.letter(key, place));
            for (int what = 0; what < 3; what++) {
                due("piece(" + key + ", " + place + ", " + what + ")",
                        x.piece(key, place, what), model.piece(key, place, what));
            }
        }
    }
}
