import java.util.ArrayDeque;
import java.util.ArrayList;
import java.util.Deque;
import java.util.List;
import java.util.Map;
import java.util.TreeMap;
import java.util.regex.Matcher;
import java.util.regex.Pattern;

/** The document once more, in the plainest form and in another way, to compare the class with. */
final class Model {
    private static final int NO_SUCH = -1, BAD_VALUE = -2, BAD_TEXT = -3, TOO_MANY = -4, NOT_POSSIBLE = -5, NONE = -6;
    private static final String ROW = "(0|[1-9][0-9]?)=[a-z]{0,40}";
    private static final Pattern TEXT = Pattern.compile(ROW + "(;" + ROW + ")*");

    private static final class Thing {
        final int kind;
        final int key;
        final int cells;

        Thing(int kind, int key, int cells) {
            this.kind = kind;
            this.key = key;
            this.cells = cells;
        }
    }

    private static final class Row {
        String text = "";
        int[] home;
        Thing head;
        Thing note;
        List<Thing> pieces = new ArrayList<>();

        Row copy() {
            Row row = new Row();
            row.text = text;
            row.home = home;
            row.head = head;
            row.note = note;
            row.pieces = new ArrayList<>(pieces);
            return row;
        }
    }

    private static final class CannotBePlaced extends RuntimeException {
        private static final long serialVersionUID = 1;
    }

    private static final class State {
        int head = 6;
        int piece = 8;
        Thing[][] pages = new Thing[10][100];
        TreeMap<Integer, Row> rows = new TreeMap<>();

        State copy() {
            State state = new State();
            state.head = head;
            state.piece = piece;
            for (int page = 0; page < 10; page++) {
                state.pages[page] = pages[page].clone();
            }
            for (Map.Entry<Integer, Row> entry : rows.entrySet()) {
                state.rows.put(entry.getKey(), entry.getValue().copy());
            }
            return state;
        }

        int free(int page) {
            int free = 40;
            for (Thing thing : pages[page]) {
                free -= thing == null ? 0 : thing.cells;
            }
            return free;
        }

        int slots(int page) {
            int slots = 0;
            for (int slot = 0; slot < 100; slot++) {
                slots = pages[page][slot] == null ? slots : slot + 1;
            }
            return slots;
        }

        int things(int page, int kind) {
            int found = 0;
            for (int slot = 0; slot < slots(page); slot++) {
                Thing thing = pages[page][slot];
                found += (thing == null ? 0 : thing.kind) == kind ? 1 : 0;
            }
            return found;
        }

        int used() {
            int used = 0;
            for (int page = 0; page < 10; page++) {
                used += slots(page) > 0 ? 1 : 0;
            }
            return used;
        }

        int[] find(Thing thing) {
            for (int page = 0; page < 10; page++) {
                for (int slot = 0; slot < 100; slot++) {
                    if (pages[page][slot] == thing) {
                        return new int[] {page, slot};
                    }
                }
            }
            throw new IllegalStateException("a lost thing");
        }

        void remove(Thing thing) {
            int[] at = find(thing);
            pages[at[0]][at[1]] = null;
        }

        void place(Thing thing) {
            for (int page = 0; page < 10; page++) {
                if (free(page) >= thing.cells) {
                    int slot = 0;
                    while (pages[page][slot] != null) {
                        slot++;
                    }
                    pages[page][slot] = thing;
                    return;
                }
            }
            throw new CannotBePlaced();
        }

        void put(int key, String text) {
            String inHead = text.substring(0, Math.min(head, text.length()));
            Thing newHead = new Thing(1, key, 2 + inHead.length());
            Row row = rows.get(key);
            if (row == null) {
                if (rows.size() == 30) {
                    throw new CannotBePlaced();
                }
                row = new Row();
                rows.put(key, row);
                place(newHead);
                row.home = find(newHead);
            } else {
                row.pieces.forEach(this::remove);
                row.pieces.clear();
                putHead(row, key, newHead);
            }
            row.head = newHead;
            row.text = text;
            String rest = text.substring(inHead.length());
            while (!rest.isEmpty()) {
                int letters = Math.min(piece, rest.length());
                Thing part = new Thing(2, key, 1 + letters);
                place(part);
                row.pieces.add(part);
                rest = rest.substring(letters);
            }
        }

        private void putHead(Row row, int key, Thing newHead) {
            int[] old = find(row.head);
            boolean atHome = row.note == null;
            remove(row.head);
            if (free(old[0]) >= newHead.cells) {
                pages[old[0]][old[1]] = newHead;
            } else if (atHome) {
                row.note = new Thing(3, key, 1);
                pages[old[0]][old[1]] = row.note;
                place(newHead);
            } else {
                remove(row.note);
                if (free(row.home[0]) >= newHead.cells) {
                    pages[row.home[0]][row.home[1]] = newHead;
                    row.note = null;
                } else {
                    pages[row.home[0]][row.home[1]] = row.note;
                    place(newHead);
                }
            }
        }

        boolean tryPut(int key, String text) {
            try {
                put(key, text);
                return true;
            } catch (CannotBePlaced e) {
                return false;
            }
        }

        State packed(int newHead) {
            State state = new State();
            state.head = newHead;
            state.piece = piece;
            for (Map.Entry<Integer, Row> entry : rows.entrySet()) {
                if (!state.tryPut(entry.getKey(), entry.getValue().text)) {
                    return null;
                }
            }
            return state;
        }

        int cost(Row row) {
            List<Integer> steps = new ArrayList<>();
            steps.add(row.home[0]);
            steps.add(find(row.head)[0]);
            row.pieces.forEach(part -> steps.add(find(part)[0]));
            int cost = 1;
            for (int i = 1; i < steps.size(); i++) {
                cost += steps.get(i).equals(steps.get(i - 1)) ? 0 : 1;
            }
            return cost;
        }

        int costs() {
            return rows.values().stream().mapToInt(this::cost).sum();
        }

        int cells(Row row) {
            return row.head.cells + (row.note == null ? 0 : 1)
                    + row.pieces.stream().mapToInt(part -> part.cells).sum();
        }
    }

    private State now = new State();
    private final Deque<State> history = new ArrayDeque<>();
    private final State[] saved = new State[2];
    private String pad = "";

    private void record() {
        history.addLast(now.copy());
        if (history.size() > 6) {
            history.removeFirst();
        }
    }

    int set(int setting, int value) {
        boolean head = setting == 0 && value >= 0 && value <= 16;
        boolean piece = setting == 1 && value >= 1 && value <= 12;
        if (!head && !piece) {
            return BAD_VALUE;
        }
        record();
        int before = head ? now.head : now.piece;
        now.head = head ? value : now.head;
        now.piece = piece ? value : now.piece;
        return before;
    }

    int write() {
        if (fault() != NONE) {
            return BAD_TEXT;
        }
        record();
        int written = 0;
        for (String row : pad.split(";")) {
            State next = now.copy();
            String[] sides = row.split("=", 2);
            if (!next.tryPut(Integer.parseInt(sides[0]), sides[1])) {
                break;
            }
            now = next;
            written++;
        }
        pad = "";
        return written;
    }

    int append(int key, int letter) {
        Row row = now.rows.get(key);
        if (row == null) {
            return NO_SUCH;
        }
        if (letter < 0 || letter > 25) {
            return BAD_VALUE;
        }
        if (row.text.length() == 40) {
            return TOO_MANY;
        }
        State next = now.copy();
        if (!next.tryPut(key, row.text + (char) ('a' + letter))) {
            return NOT_POSSIBLE;
        }
        record();
        now = next;
        return row.text.length() + 1;
    }

    int delete(int key) {
        Row row = now.rows.get(key);
        if (row == null) {
            return NO_SUCH;
        }
        record();
        int before = count(4);
        now.remove(row.head);
        row.pieces.forEach(now::remove);
        if (row.note != null) {
            now.remove(row.note);
        }
        now.rows.remove(key);
        return count(4) - before;
    }

    int pack() {
        State next = now.packed(now.head);
        if (next == null) {
            return NOT_POSSIBLE;
        }
        record();
        now = next;
        return now.used();
    }

    int row(int key, int what) {
        Row row = now.rows.get(key);
        if (row == null) {
            return NO_SUCH;
        }
        int[] head = now.find(row.head);
        int[] answers = {row.text.length(), row.home[0], row.home[1], head[0], head[1], row.note == null ? 0 : 1,
            row.head.cells - 2, row.pieces.size(), now.cost(row), now.cells(row)};
        return what < 0 || what > 9 ? BAD_VALUE : answers[what];
    }

    int letter(int key, int place) {
        Row row = now.rows.get(key);
        return row == null || place < 0 || place >= row.text.length() ? NO_SUCH : row.text.charAt(place) - 'a';
    }

    int piece(int key, int piece, int what) {
        Row row = now.rows.get(key);
        if (row == null || piece < 0 || piece >= row.pieces.size()) {
            return NO_SUCH;
        }
        Thing part = row.pieces.get(piece);
        int[] at = now.find(part);
        int[] answers = {at[0], at[1], part.cells - 1};
        return what < 0 || what > 2 ? BAD_VALUE : answers[what];
    }

    int page(int page, int what) {
        if (page < 0 || page > 9) {
            return NO_SUCH;
        }
        int[] answers = {now.free(page), now.slots(page), now.things(page, 1), now.things(page, 2),
            now.things(page, 3), now.things(page, 0)};
        return what < 0 || what > 5 ? BAD_VALUE : answers[what];
    }

    int slot(int page, int slot, int what) {
        if (page < 0 || page > 9 || slot < 0 || slot >= now.slots(page)) {
            return NO_SUCH;
        }
        Thing thing = now.pages[page][slot];
        int[] answers = thing == null ? new int[] {0, NONE, 0} : new int[] {thing.kind, thing.key, thing.cells};
        return what < 0 || what > 2 ? BAD_VALUE : answers[what];
    }

    int count(int what) {
        int notes = 0;
        int pieces = 0;
        int free = 0;
        for (int page = 0; page < 10; page++) {
            notes += now.things(page, 3);
            pieces += now.things(page, 2);
            free += now.free(page);
        }
        int greatest = now.rows.values().stream().mapToInt(now::cost).max().orElse(NONE);
        int letters = now.rows.values().stream().mapToInt(row -> row.text.length()).sum();
        int[] answers = {now.rows.size(), now.used(), notes, pieces, free, now.costs(), letters, greatest,
            now.head, now.piece, pad.length(), history.size()};
        return what < 0 || what > 11 ? BAD_VALUE : answers[what];
    }

    int key(int place) {
        List<Integer> keys = new ArrayList<>(now.rows.keySet());
        return place < 0 || place >= keys.size() ? NO_SUCH : keys.get(place);
    }

    int ifPacked(int head, int what) {
        if (head < 0 || head > 16 || what < 0 || what > 2) {
            return BAD_VALUE;
        }
        State next = now.packed(head);
        if (next == null) {
            return NOT_POSSIBLE;
        }
        int pieces = next.rows.values().stream().mapToInt(row -> row.pieces.size()).sum();
        return new int[] {next.costs(), next.used(), pieces}[what];
    }

    int bestHead() {
        TreeMap<Integer, Integer> headByCost = new TreeMap<>();
        for (int head = 16; head >= 0; head -= 2) {
            State next = now.packed(head);
            if (next != null) {
                headByCost.put(next.costs(), head);
            }
        }
        return now.rows.isEmpty() || headByCost.isEmpty() ? NONE : headByCost.firstEntry().getValue();
    }

    int most(int key) {
        if (key < 0 || key > 99) {
            return BAD_VALUE;
        }
        int most = NONE;
        for (int letters = 0; letters <= 40; letters++) {
            most = now.copy().tryPut(key, "x".repeat(letters)) ? letters : most;
        }
        return most;
    }

    int put(long characters) {
        StringBuilder text = new StringBuilder();
        boolean ended = false;
        for (int shift = 0; shift < 64; shift += 8) {
            int code = (int) (characters >> shift & 0xff);
            if (code == 0) {
                ended = true;
            } else if (ended || code < 33 || code > 126) {
                return BAD_VALUE;
            } else {
                text.insert(0, (char) code);
            }
        }
        if (text.length() == 0) {
            return BAD_VALUE;
        }
        if (pad.length() + text.length() > 80) {
            return TOO_MANY;
        }
        pad += text;
        return pad.length();
    }

    int wipe() {
        int before = pad.length();
        pad = "";
        return before;
    }

    /** The longest beginning that some good text has too is what can stand. */
    int fault() {
        if (TEXT.matcher(pad).matches()) {
            return NONE;
        }
        for (int length = 1; length <= pad.length(); length++) {
            Matcher matcher = TEXT.matcher(pad.substring(0, length));
            if (!matcher.matches() && !matcher.hitEnd()) {
                return length - 1;
            }
        }
        return pad.length();
    }

    int undo() {
        if (history.isEmpty()) {
            return NOT_POSSIBLE;
        }
        now = history.removeLast();
        return history.size();
    }

    int save(int place) {
        if (place < 0 || place > 1) {
            return BAD_VALUE;
        }
        saved[place] = now.copy();
        return now.rows.size();
    }

    int restore(int place) {
        if (place < 0 || place > 1) {
            return BAD_VALUE;
        }
        if (saved[place] == null) {
            return NOT_POSSIBLE;
        }
        record();
        now = saved[place].copy();
        return now.rows.size();
    }
}
