import java.util.Arrays;

/** A packer of rows into pages. What each method promises is told in the project's document. */
public final class OverflowRows {
    public static final int NO_SUCH = -1, BAD_VALUE = -2, BAD_TEXT = -3, TOO_MANY = -4, NOT_POSSIBLE = -5, NONE = -6;
    public static final int HEAD = 0, PIECE = 1;

    private static final int PAGES = 10;
    private static final int ROOM = 40;
    // Every thing takes a cell and the lowest empty slot, so no page has more slots than cells.
    private static final int SLOTS = ROOM;
    private static final int SPOTS = PAGES * SLOTS;

    private static final int ROWS = 30;
    private static final int KEYS = 100;
    private static final int LETTERS = 40;
    private static final int ALPHABET = 26;

    private static final int FIRST_HEAD = 6, GREATEST_HEAD = 16, HEAD_STEP = 2;
    private static final int FIRST_PIECE = 8, LEAST_PIECE = 1, GREATEST_PIECE = 12;

    private static final int A_GAP = 0, A_HEAD = 1, A_PIECE = 2, A_NOTE = 3;
    private static final int HEAD_FRAME = 2, PIECE_FRAME = 1, NOTE_CELLS = 1;

    private static final int PAD_SIGNS = 80;
    // The shortest row and its semicolon are three signs.
    private static final int PAD_ROWS = PAD_SIGNS / 3 + 1;
    private static final int SIGNS_AT_ONCE = 8, SIGN_BITS = 8, SIGN_MASK = 255;
    private static final int LEAST_SIGN = 33, GREATEST_SIGN = 126;

    private static final int HISTORY = 6;
    private static final int SAVES = 2;

    /** Stands for a spot, a row's number, a key or a fault that there is not. */
    private static final int NO = -1;

    private final Pad pad;
    private final History history;
    private final Book[] saved;
    private Book now;
    private Book trial;

    public OverflowRows() {
        pad = new Pad();
        history = new History();
        saved = new Book[SAVES];
        now = new Book();
        trial = new Book();
    }

    // ---- changes

    public int set(int setting, int value) {
        if (setting == HEAD) {
            return setHead(value);
        }
        if (setting == PIECE) {
            return setPiece(value);
        }
        return BAD_VALUE;
    }

    private int setHead(int value) {
        if (value < 0 || value > GREATEST_HEAD) {
            return BAD_VALUE;
        }
        history.record(now);
        int before = now.headMost;
        now.headMost = value;
        return before;
    }

    private int setPiece(int value) {
        if (value < LEAST_PIECE || value > GREATEST_PIECE) {
            return BAD_VALUE;
        }
        history.record(now);
        int before = now.pieceMost;
        now.pieceMost = value;
        return before;
    }

    public int write() {
        if (pad.read() != NO) {
            return BAD_TEXT;
        }
        history.record(now);
        int written = 0;
        while (written < pad.rows && writePadRow(written)) {
            written++;
        }
        pad.length = 0;
        return written;
    }

    private boolean writePadRow(int place) {
        trial.copyFrom(now);
        Row row = trial.layRow(at(pad.keyOf, place), at(pad.lettersOf, place));
        if (row == null) {
            return false;
        }
        int from = at(pad.textOf, place);
        for (int i = 0; i < row.letters; i++) {
            store(row.text, i, at(pad.signs, from + i) - 'a');
        }
        takeTrial();
        return true;
    }

    public int append(int key, int letter) {
        Row row = now.rowOf(key);
        if (row == null) {
            return NO_SUCH;
        }
        if (letter < 0 || letter >= ALPHABET) {
            return BAD_VALUE;
        }
        int letters = row.letters;
        if (letters >= LETTERS) {
            return TOO_MANY;
        }
        trial.copyFrom(now);
        Row longer = trial.layRow(key, letters + 1);
        if (longer == null) {
            return NOT_POSSIBLE;
        }
        store(longer.text, letters, letter);
        history.record(now);
        takeTrial();
        return letters + 1;
    }

    public int delete(int key) {
        Row row = now.rowOf(key);
        if (row == null) {
            return NO_SUCH;
        }
        history.record(now);
        int freed = now.cellsOf(row);
        now.removeRow(row);
        return freed;
    }

    public int pack() {
        if (!tryPacking(now.headMost)) {
            return NOT_POSSIBLE;
        }
        history.record(now);
        takeTrial();
        return now.pages.pagesInUse();
    }

    /** Leaves in the trial what packing all anew brings, unless it answers that it cannot be. */
    private boolean tryPacking(int head) {
        trial.copyFrom(now);
        trial.headMost = head;
        return trial.packAll();
    }

    private void takeTrial() {
        Book before = now;
        now = trial;
        trial = before;
    }

    // ---- what there is

    public int row(int key, int what) {
        Row row = now.rowOf(key);
        if (row == null) {
            return NO_SUCH;
        }
        switch (what) {
            case 0: return row.letters;
            case 1: return row.home / SLOTS;
            case 2: return row.home % SLOTS;
            case 3: return row.head / SLOTS;
            case 4: return row.head % SLOTS;
            case 5: return row.hasMoved() ? 1 : 0;
            case 6: return at(now.pages.cells, row.head) - HEAD_FRAME;
            case 7: return row.pieces;
            case 8: return row.cost();
            case 9: return now.cellsOf(row);
            default: return BAD_VALUE;
        }
    }

    public int letter(int key, int place) {
        Row row = now.rowOf(key);
        if (row == null || place < 0 || place >= row.letters) {
            return NO_SUCH;
        }
        return at(row.text, place);
    }

    public int piece(int key, int piece, int what) {
        Row row = now.rowOf(key);
        if (row == null || piece < 0 || piece >= row.pieces) {
            return NO_SUCH;
        }
        int spot = at(row.pieceSpots, piece);
        switch (what) {
            case 0: return spot / SLOTS;
            case 1: return spot % SLOTS;
            case 2: return at(now.pages.cells, spot) - PIECE_FRAME;
            default: return BAD_VALUE;
        }
    }

    public int page(int page, int what) {
        if (page < 0 || page >= PAGES) {
            return NO_SUCH;
        }
        switch (what) {
            case 0: return at(now.pages.free, page);
            case 1: return now.pages.slotsOf(page);
            case 2: return now.pages.thingsOn(page, A_HEAD);
            case 3: return now.pages.thingsOn(page, A_PIECE);
            case 4: return now.pages.thingsOn(page, A_NOTE);
            case 5: return now.pages.thingsOn(page, A_GAP);
            default: return BAD_VALUE;
        }
    }

    public int slot(int page, int slot, int what) {
        if (page < 0 || page >= PAGES || slot < 0 || slot >= now.pages.slotsOf(page)) {
            return NO_SUCH;
        }
        int spot = page * SLOTS + slot;
        switch (what) {
            case 0: return at(now.pages.kind, spot);
            case 1: return at(now.pages.kind, spot) == A_GAP ? NONE : at(now.pages.owner, spot);
            case 2: return at(now.pages.cells, spot);
            default: return BAD_VALUE;
        }
    }

    public int count(int what) {
        switch (what) {
            case 0: return now.rows;
            case 1: return now.pages.pagesInUse();
            case 2: return now.pages.thingsInAll(A_NOTE);
            case 3: return now.pages.thingsInAll(A_PIECE);
            case 4: return now.pages.freeInAll();
            case 5: return now.costInAll();
            case 6: return now.lettersInAll();
            case 7: return now.rows == 0 ? NONE : now.greatestCost();
            case 8: return now.headMost;
            case 9: return now.pieceMost;
            case 10: return pad.length;
            case 11: return history.held;
            default: return BAD_VALUE;
        }
    }

    public int key(int place) {
        int before = 0;
        for (int key = 0; key < KEYS; key++) {
            if (now.rowOf(key) != null) {
                if (before == place) {
                    return key;
                }
                before++;
            }
        }
        return NO_SUCH;
    }

    // ---- what if

    public int ifPacked(int head, int what) {
        if (head < 0 || head > GREATEST_HEAD || what < 0 || what > 2) {
            return BAD_VALUE;
        }
        if (!tryPacking(head)) {
            return NOT_POSSIBLE;
        }
        if (what == 0) {
            return trial.costInAll();
        }
        return what == 1 ? trial.pages.pagesInUse() : trial.pages.thingsInAll(A_PIECE);
    }

    public int bestHead() {
        if (now.rows == 0) {
            return NONE;
        }
        int best = NONE;
        int least = 0;
        for (int head = 0; head <= GREATEST_HEAD; head += HEAD_STEP) {
            if (tryPacking(head)) {
                int cost = trial.costInAll();
                if (best == NONE || cost < least) {
                    best = head;
                    least = cost;
                }
            }
        }
        return best;
    }

    public int most(int key) {
        if (key < 0 || key >= KEYS) {
            return BAD_VALUE;
        }
        for (int letters = LETTERS; letters >= 0; letters--) {
            trial.copyFrom(now);
            if (trial.layRow(key, letters) != null) {
                return letters;
            }
        }
        return NONE;
    }

    // ---- texts

    public int put(long characters) {
        int signs = signsIn(characters);
        if (signs == 0) {
            return BAD_VALUE;
        }
        if (pad.length + signs > PAD_SIGNS) {
            return TOO_MANY;
        }
        for (int i = signs - 1; i >= 0; i--) {
            store(pad.signs, pad.length, signOf(characters, i));
            pad.length++;
        }
        return pad.length;
    }

    /** How many characters the number gives; 0 if it is not a number of put. */
    private static int signsIn(long characters) {
        int signs = 0;
        while (signs < SIGNS_AT_ONCE && signOf(characters, signs) != 0) {
            int sign = signOf(characters, signs);
            if (sign < LEAST_SIGN || sign > GREATEST_SIGN) {
                return 0;
            }
            signs++;
        }
        // A shift by all 64 bits would shift by none.
        boolean rest = signs < SIGNS_AT_ONCE && characters >>> (SIGN_BITS * signs) != 0;
        return rest ? 0 : signs;
    }

    private static int signOf(long characters, int fromBehind) {
        return (int) (characters >>> (SIGN_BITS * fromBehind)) & SIGN_MASK;
    }

    public int wipe() {
        int before = pad.length;
        pad.length = 0;
        return before;
    }

    public int fault() {
        int fault = pad.read();
        return fault == NO ? NONE : fault;
    }

    // ---- undo, saving

    public int undo() {
        if (history.held == 0) {
            return NOT_POSSIBLE;
        }
        history.giveBack(now);
        return history.held;
    }

    public int save(int place) {
        if (place < 0 || place >= SAVES) {
            return BAD_VALUE;
        }
        if (saved[place] == null) {
            saved[place] = new Book();
        }
        saved[place].copyFrom(now);
        return now.rows;
    }

    public int restore(int place) {
        if (place < 0 || place >= SAVES) {
            return BAD_VALUE;
        }
        if (saved[place] == null) {
            return NOT_POSSIBLE;
        }
        history.record(now);
        now.copyFrom(saved[place]);
        return now.rows;
    }

    // ---- looking at an index before it is used

    private static int at(int[] numbers, int index) {
        return index < 0 || index >= numbers.length ? NO : numbers[index];
    }

    private static void store(int[] numbers, int index, int number) {
        if (index >= 0 && index < numbers.length) {
            numbers[index] = number;
        }
    }

    /** What lies in the pages. A spot is the number of a slot among the slots of all pages. */
    private static final class Pages {
        final int[] kind = new int[SPOTS];
        final int[] owner = new int[SPOTS];
        final int[] cells = new int[SPOTS];
        final int[] free = new int[PAGES];

        Pages() {
            Arrays.fill(free, ROOM);
        }

        void copyFrom(Pages other) {
            System.arraycopy(other.kind, 0, kind, 0, SPOTS);
            System.arraycopy(other.owner, 0, owner, 0, SPOTS);
            System.arraycopy(other.cells, 0, cells, 0, SPOTS);
            System.arraycopy(other.free, 0, free, 0, PAGES);
        }

        void clear() {
            Arrays.fill(kind, A_GAP);
            Arrays.fill(cells, 0);
            Arrays.fill(free, ROOM);
        }

        boolean hasRoom(int page, int size) {
            return page >= 0 && page < PAGES && free[page] >= size;
        }

        void occupy(int spot, int thing, int key, int size) {
            if (spot >= 0 && spot < SPOTS) {
                kind[spot] = thing;
                owner[spot] = key;
                cells[spot] = size;
                free[spot / SLOTS] -= size;
            }
        }

        void vacate(int spot) {
            if (spot >= 0 && spot < SPOTS) {
                free[spot / SLOTS] += cells[spot];
                kind[spot] = A_GAP;
                cells[spot] = 0;
            }
        }

        /** Places a thing as the document says; answers its spot, NO if it cannot be placed. */
        int place(int thing, int key, int size) {
            for (int page = 0; page < PAGES; page++) {
                if (hasRoom(page, size)) {
                    int spot = lowestGap(page);
                    occupy(spot, thing, key, size);
                    return spot;
                }
            }
            return NO;
        }

        private int lowestGap(int page) {
            for (int slot = 0; slot < SLOTS; slot++) {
                int spot = page * SLOTS + slot;
                if (at(kind, spot) == A_GAP) {
                    return spot;
                }
            }
            return NO;
        }

        int slotsOf(int page) {
            for (int slot = SLOTS - 1; slot >= 0; slot--) {
                if (at(kind, page * SLOTS + slot) != A_GAP) {
                    return slot + 1;
                }
            }
            return 0;
        }

        int thingsOn(int page, int thing) {
            int slots = slotsOf(page);
            int found = 0;
            for (int slot = 0; slot < slots; slot++) {
                if (at(kind, page * SLOTS + slot) == thing) {
                    found++;
                }
            }
            return found;
        }

        int thingsInAll(int thing) {
            int found = 0;
            for (int page = 0; page < PAGES; page++) {
                found += thingsOn(page, thing);
            }
            return found;
        }

        int pagesInUse() {
            int used = 0;
            for (int page = 0; page < PAGES; page++) {
                if (free[page] < ROOM) {
                    used++;
                }
            }
            return used;
        }

        int freeInAll() {
            int sum = 0;
            for (int page = 0; page < PAGES; page++) {
                sum += free[page];
            }
            return sum;
        }
    }

    /** A row's text, and where its things lie; without a key it is there to be used again. */
    private static final class Row {
        int key = NO;
        int letters = 0;
        int home = NO;
        int head = NO;
        int pieces = 0;
        final int[] pieceSpots = new int[LETTERS];
        final int[] text = new int[LETTERS];

        void copyFrom(Row other) {
            key = other.key;
            letters = other.letters;
            home = other.home;
            head = other.head;
            pieces = other.pieces;
            System.arraycopy(other.pieceSpots, 0, pieceSpots, 0, LETTERS);
            System.arraycopy(other.text, 0, text, 0, LETTERS);
        }

        boolean hasMoved() {
            return head != home;
        }

        int cost() {
            int page = head / SLOTS;
            int cost = page == home / SLOTS ? 1 : 2;
            for (int i = 0; i < pieces; i++) {
                int next = at(pieceSpots, i) / SLOTS;
                if (next != page) {
                    cost++;
                }
                page = next;
            }
            return cost;
        }
    }

    /** Everything that undo and restore bring back: settings, rows and pages. */
    private static final class Book {
        int headMost = FIRST_HEAD;
        int pieceMost = FIRST_PIECE;
        int rows = 0;
        final Pages pages = new Pages();
        private final Row[] all = new Row[ROWS];
        /** By key: which one of all the rows it is. */
        private final int[] numberOf = new int[KEYS];

        Book() {
            for (int number = 0; number < ROWS; number++) {
                all[number] = new Row();
            }
            Arrays.fill(numberOf, NO);
        }

        void copyFrom(Book other) {
            headMost = other.headMost;
            pieceMost = other.pieceMost;
            rows = other.rows;
            pages.copyFrom(other.pages);
            for (int number = 0; number < ROWS; number++) {
                Row mine = all[number];
                Row others = other.all[number];
                if (mine != null && others != null) {
                    mine.copyFrom(others);
                }
            }
            System.arraycopy(other.numberOf, 0, numberOf, 0, KEYS);
        }

        /** The row with that key, null if there is none. */
        Row rowOf(int key) {
            int number = at(numberOf, key);
            return number < 0 || number >= ROWS ? null : all[number];
        }

        /**
         * Writes a row, new or not, with that many letters; which ones is left to the caller.
         * If it answers null the book is spoilt, so it is called on a trial only.
         */
        Row layRow(int key, int letters) {
            Row old = rowOf(key);
            if (old != null) {
                old.letters = letters;
                return layAgain(old) ? old : null;
            }
            Row added = addRow(key);
            if (added == null) {
                return null;
            }
            added.letters = letters;
            return layNew(added) ? added : null;
        }

        private Row addRow(int key) {
            for (int number = 0; number < ROWS; number++) {
                Row row = all[number];
                if (row != null && row.key == NO) {
                    row.key = key;
                    store(numberOf, key, number);
                    rows++;
                    return row;
                }
            }
            return null;
        }

        private boolean layNew(Row row) {
            row.home = pages.place(A_HEAD, row.key, headCells(row));
            row.head = row.home;
            return row.head != NO && layPieces(row);
        }

        private boolean layAgain(Row row) {
            liftPieces(row);
            pages.vacate(row.head);
            row.head = layHeadAgain(row);
            return row.head != NO && layPieces(row);
        }

        /** Lays the head of a row whose head and pieces were taken away; answers its spot or NO. */
        private int layHeadAgain(Row row) {
            int size = headCells(row);
            if (pages.hasRoom(row.head / SLOTS, size)) {
                pages.occupy(row.head, A_HEAD, row.key, size);
                return row.head;
            }
            if (!row.hasMoved()) {
                pages.occupy(row.home, A_NOTE, row.key, NOTE_CELLS);
                return pages.place(A_HEAD, row.key, size);
            }
            if (pages.hasRoom(row.home / SLOTS, size - NOTE_CELLS)) {
                pages.vacate(row.home);
                pages.occupy(row.home, A_HEAD, row.key, size);
                return row.home;
            }
            return pages.place(A_HEAD, row.key, size);
        }

        private boolean layPieces(Row row) {
            int left = row.letters - headLetters(row);
            row.pieces = 0;
            for (int laid = 0; laid < LETTERS && left > 0; laid++) {
                int letters = Math.min(left, pieceMost);
                int spot = pages.place(A_PIECE, row.key, PIECE_FRAME + letters);
                if (spot == NO) {
                    return false;
                }
                store(row.pieceSpots, laid, spot);
                row.pieces++;
                left -= letters;
            }
            return true;
        }

        private void liftPieces(Row row) {
            for (int i = 0; i < row.pieces; i++) {
                pages.vacate(at(row.pieceSpots, i));
            }
            row.pieces = 0;
        }

        /** How many letters a head that is written now gets; one that lies may have others. */
        private int headLetters(Row row) {
            return Math.min(row.letters, headMost);
        }

        private int headCells(Row row) {
            return HEAD_FRAME + headLetters(row);
        }

        void removeRow(Row row) {
            liftPieces(row);
            pages.vacate(row.head);
            if (row.hasMoved()) {
                pages.vacate(row.home);
            }
            store(numberOf, row.key, NO);
            row.key = NO;
            rows--;
        }

        /** Answers whether all rows could be written; if not, the book is spoilt. */
        boolean packAll() {
            pages.clear();
            for (int key = 0; key < KEYS; key++) {
                Row row = rowOf(key);
                if (row != null && !layNew(row)) {
                    return false;
                }
            }
            return true;
        }

        int cellsOf(Row row) {
            int sum = at(pages.cells, row.head);
            for (int i = 0; i < row.pieces; i++) {
                sum += at(pages.cells, at(row.pieceSpots, i));
            }
            return row.hasMoved() ? sum + NOTE_CELLS : sum;
        }

        int costInAll() {
            int sum = 0;
            for (int key = 0; key < KEYS; key++) {
                Row row = rowOf(key);
                if (row != null) {
                    sum += row.cost();
                }
            }
            return sum;
        }

        int greatestCost() {
            int greatest = 0;
            for (int key = 0; key < KEYS; key++) {
                Row row = rowOf(key);
                if (row != null) {
                    greatest = Math.max(greatest, row.cost());
                }
            }
            return greatest;
        }

        int lettersInAll() {
            int sum = 0;
            for (int key = 0; key < KEYS; key++) {
                Row row = rowOf(key);
                if (row != null) {
                    sum += row.letters;
                }
            }
            return sum;
        }
    }

    /** The pad, and what reading it from left to right found. */
    private static final class Pad {
        final int[] signs = new int[PAD_SIGNS];
        int length = 0;
        int rows = 0;
        final int[] keyOf = new int[PAD_ROWS];
        final int[] textOf = new int[PAD_ROWS];
        final int[] lettersOf = new int[PAD_ROWS];
        private boolean inText = false;
        private int digits = 0;
        private int number = 0;

        /** Finds the rows of the pad; answers its fault, NO if there is none. */
        int read() {
            rows = 0;
            awaitKey();
            for (int place = 0; place < length; place++) {
                int sign = at(signs, place);
                boolean stands = inText ? readInText(sign) : readInKey(sign, place);
                if (!stands) {
                    return place;
                }
            }
            return inText ? NO : length;
        }

        private void awaitKey() {
            inText = false;
            digits = 0;
            number = 0;
        }

        private boolean readInKey(int sign, int place) {
            if (sign == '=') {
                return digits > 0 && startText(place + 1);
            }
            boolean leadingZero = digits > 0 && number == 0;
            if (sign < '0' || sign > '9' || leadingZero) {
                return false;
            }
            number = number * 10 + sign - '0';
            digits++;
            return number < KEYS;
        }

        private boolean startText(int from) {
            if (rows >= PAD_ROWS) {
                return false;
            }
            store(keyOf, rows, number);
            store(textOf, rows, from);
            store(lettersOf, rows, 0);
            rows++;
            inText = true;
            return true;
        }

        private boolean readInText(int sign) {
            if (sign == ';') {
                awaitKey();
                return true;
            }
            int letters = at(lettersOf, rows - 1);
            if (sign < 'a' || sign > 'z' || letters >= LETTERS) {
                return false;
            }
            store(lettersOf, rows - 1, letters + 1);
            return true;
        }
    }

    /** The latest states that can come back, in a ring. */
    private static final class History {
        final Book[] states = new Book[HISTORY];
        int held = 0;
        private int oldest = 0;

        void record(Book state) {
            int place = Math.floorMod(oldest + held, HISTORY);
            if (states[place] == null) {
                states[place] = new Book();
            }
            states[place].copyFrom(state);
            if (held < HISTORY) {
                held++;
            } else {
                oldest = (oldest + 1) % HISTORY;
            }
        }

        void giveBack(Book state) {
            int place = Math.floorMod(oldest + held - 1, HISTORY);
            if (held > 0 && states[place] != null) {
                state.copyFrom(states[place]);
                held--;
            }
        }
    }
}
