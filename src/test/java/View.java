/** All that an object tells, as a text of lines, so that two objects can be compared. */
final class View {
    private View() {
    }

    /** Settings, rows and pages: what undo and restore bring back. */
    static String rows(OverflowRows x) {
        StringBuilder view = new StringBuilder();
        for (int what = 0; what < 10; what++) {
            line(view, "count " + what, x.count(what));
        }
        for (int page = 0; page < 10; page++) {
            for (int what = 0; what < 6; what++) {
                line(view, "page " + page + " " + what, x.page(page, what));
            }
            for (int slot = 0; slot < x.page(page, 1); slot++) {
                for (int what = 0; what < 3; what++) {
                    line(view, "slot " + page + " " + slot + " " + what, x.slot(page, slot, what));
                }
            }
        }
        for (int place = 0; place < x.count(0); place++) {
            row(view, x, x.key(place));
        }
        return view.toString();
    }

    private static void row(StringBuilder view, OverflowRows x, int key) {
        for (int what = 0; what < 10; what++) {
            line(view, "row " + key + " " + what, x.row(key, what));
        }
        for (int place = 0; place < x.row(key, 0); place++) {
            line(view, "letter " + key + " " + place, x.letter(key, place));
        }
        for (int piece = 0; piece < x.row(key, 7); piece++) {
            for (int what = 0; what < 3; what++) {
                line(view, "piece " + key + " " + piece + " " + what, x.piece(key, piece, what));
            }
        }
    }

    /** All that can be seen without a change. */
    static String of(OverflowRows x) {
        StringBuilder view = new StringBuilder(rows(x));
        line(view, "length of the pad", x.count(10));
        line(view, "length of the history", x.count(11));
        line(view, "fault", x.fault());
        return view.toString();
    }

    /** Also what is in the history, in the saved states and in the pad; the object is used up by that. */
    static String ofAll(OverflowRows x) {
        StringBuilder view = new StringBuilder(of(x));
        for (int changes = x.count(11); changes > 0; changes--) {
            line(view, "undo", x.undo());
            view.append(rows(x));
        }
        line(view, "undo at the end", x.undo());
        for (int place = 0; place < 2; place++) {
            line(view, "restore " + place, x.restore(place));
            view.append(rows(x));
        }
        pad(view, x);
        return view.toString();
    }

    /** What the pad says shows only when it is written, and its rows need room for that. */
    private static void pad(StringBuilder view, OverflowRows x) {
        for (int key = 0; key < 100; key++) {
            x.delete(key);
        }
        line(view, "write", x.write());
        view.append(of(x));
        line(view, "put of =", x.put('='));
        line(view, "write with it", x.write());
        view.append(of(x));
    }

    private static void line(StringBuilder view, String what, int answer) {
        view.append(what).append(": ").append(answer).append('\n');
    }
}
