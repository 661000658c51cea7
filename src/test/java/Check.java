/** What the tests share: counting wrong answers, and putting texts. */
final class Check {
    private String sentence = "";
    private int wrong = 0;
    private int asked = 0;

    /** The document's words that the following answers are asked for; a wrong answer tells them. */
    void sentence(String chapter, String words) {
        sentence = chapter + ", '" + words + "': ";
    }

    void due(String call, long got, long want) {
        asked++;
        if (got != want) {
            wrong++;
            System.out.println(sentence + call + " answered " + got + ", due is " + want);
        }
    }

    /** For whole views: tells the first line in which they differ. */
    void same(String call, String got, String want) {
        asked++;
        if (got.equals(want)) {
            return;
        }
        wrong++;
        String[] gotLines = got.split("\n");
        String[] wantLines = want.split("\n");
        int line = 0;
        while (line < gotLines.length && line < wantLines.length && gotLines[line].equals(wantLines[line])) {
            line++;
        }
        System.out.println(sentence + call + " left '" + (line < gotLines.length ? gotLines[line] : "")
                + "', due is '" + (line < wantLines.length ? wantLines[line] : "") + "'");
    }

    void row(OverflowRows x, int key, int... answers) {
        for (int what = 0; what < answers.length; what++) {
            due("row(" + key + ", " + what + ")", x.row(key, what), answers[what]);
        }
    }

    void pieces(OverflowRows x, int key, int[]... pieces) {
        due("row(" + key + ", 7)", x.row(key, 7), pieces.length);
        for (int piece = 0; piece < pieces.length; piece++) {
            for (int what = 0; what < pieces[piece].length; what++) {
                due("piece(" + key + ", " + piece + ", " + what + ")", x.piece(key, piece, what), pieces[piece][what]);
            }
        }
    }

    void page(OverflowRows x, int page, int... answers) {
        for (int what = 0; what < answers.length; what++) {
            due("page(" + page + ", " + what + ")", x.page(page, what), answers[what]);
        }
    }

    void slot(OverflowRows x, int page, int slot, int... answers) {
        for (int what = 0; what < answers.length; what++) {
            due("slot(" + page + ", " + slot + ", " + what + ")", x.slot(page, slot, what), answers[what]);
        }
    }

    void counts(OverflowRows x, int... answers) {
        for (int what = 0; what < answers.length; what++) {
            due("count(" + what + ")", x.count(what), answers[what]);
        }
    }

    /** Where a row is at home and where its head lies, and that the slots there say the same. */
    void where(OverflowRows x, int key, int homePage, int homeSlot, int headPage, int headSlot) {
        due("home page of " + key, x.row(key, 1), homePage);
        due("home slot of " + key, x.row(key, 2), homeSlot);
        due("head page of " + key, x.row(key, 3), headPage);
        due("head slot of " + key, x.row(key, 4), headSlot);
        boolean moved = homePage != headPage || homeSlot != headSlot;
        due("moved " + key, x.row(key, 5), moved ? 1 : 0);
        due("thing at home of " + key, x.slot(homePage, homeSlot, 0), moved ? 3 : 1);
        due("key at home of " + key, x.slot(homePage, homeSlot, 1), key);
        due("head of " + key, x.slot(headPage, headSlot, 0), 1);
        due("key at head of " + key, x.slot(headPage, headSlot, 1), key);
    }

    void finish() {
        System.out.println(asked + " answers, " + wrong + " of them not as due");
        if (wrong != 0 || asked == 0) {
            System.exit(1);
        }
    }

    static long number(String characters) {
        long number = 0;
        for (int i = 0; i < characters.length(); i++) {
            number = number << 8 | characters.charAt(i);
        }
        return number;
    }

    /** Puts a text of any length, up to eight characters a call. */
    static void put(OverflowRows x, String text) {
        for (int from = 0; from < text.length(); from += 8) {
            x.put(number(text.substring(from, Math.min(text.length(), from + 8))));
        }
    }

    static int write(OverflowRows x, String text) {
        put(x, text);
        return x.write();
    }

    static String letters(int many) {
        StringBuilder text = new StringBuilder();
        for (int i = 0; i < many; i++) {
            text.append((char) ('a' + i % 26));
        }
        return text.toString();
    }

    /** A row with that many letters, as a text. */
    static String row(int key, int many) {
        return key + "=" + letters(many);
    }
}
