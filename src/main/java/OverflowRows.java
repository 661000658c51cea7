import java.util.Arrays;

/** A packer of rows into pages. What each method promises is told in the project's document. */
public final class OverflowRows {
    public static final int NO_SUCH = -1, BAD_VALUE = -2, BAD_TEXT = -3, TOO_MANY = -4, NOT_POSSIBLE = -5, NONE = -6;
    public static final int HEAD = 0, PIECE = 1;

    private static final int PAGES = 10;
    private static final int ROOM = 40;
    // Every thing takes a cell and the lowest empty slot, so no page has more slots than cells.
    private static final int SLOTS = ROOM;
    private static final int SPOTS = PAGES * SLOTS;

    private static final int ROWS = 30;
    private static final int KEYS = 100;
    private static final int LETTERS = 40;
    private static final int ALPHABET = 26;

    private static final int FIRST_HEAD = 6, GREATEST_HEAD = 16, HEAD_STEP = 2;
    private static final int FIRST_PIECE = 8, LEAST_PIECE = 1, GREATEST_PIECE = 12;

    private static final int A_GAP = 0, A_HEAD = 1, A_PIECE = 2, A_NOTE = 3;
    private static final int HEAD_FRAME = 2, PIECE_FRAME = 1, NOTE_CELLS = 1;

    private static final int PAD_SIGNS = 80;
    // The shortest row and its semicolon are three signs.
    private static final int PAD_ROWS = PAD_SIGNS / 3 + 1;
    private static final int SIGNS_AT_ONCE = 8, SIGN_BITS = 8, SIGN_MASK = 255;
    private static final int LEAST_SIGN = 33, GREATEST_SIGN = 126;

    private static final int HISTORY = 6;
    private static final int SAVES = 2;

    /** Stands for a spot, a row's number, a page or a fault that there is not. */
    private static final int NO = -1;

    private final Pad pad;
    private final History history;
    private final Book[] saved;
    private Book now;
    private Book trial;

    public OverflowRows() {
        pad = new Pad();
        history = new History();
        saved = new Book[SAVES];
        now = new Book();
        trial = new Book();
    }

    // ---- changes

    public int set(int setting, int value) {
        if (setting == HEAD) {
            return setHead(value);
        }
        if (setting == PIECE) {
            return setPiece(value);
        }
        return BAD_VALUE;
    }

    private int setHead(int value) {
        if (value < 0 || value > GREATEST_HEAD) {
            return BAD_VALUE;
        }
        history.record(now);
        int before = now.headMost;
        now.headMost = value;
        return before;
    }

    private int setPiece(int value) {
        if (value < LEAST_PIECE || value > GREATEST_PIECE) {
            return BAD_VALUE;
        }
        history.record(now);
        int before = now.pieceMost;
        now.pieceMost = value;
        return before;
    }

    public int write() {
        if (pad.read() != NO) {
            return BAD_TEXT;
        }
        history.record(now);
        int written = 0;
        while (written < pad.rows && writePadRow(written)) {
            written++;
        }
        pad.length = 0;
        return written;
    }

    private boolean writePadRow(int place) {
        int letters = pad.lettersOf[place];
        trial.copyFrom(now);
        int row = trial.layRow(pad.keyOf[place], letters);
        if (row == NO) {
            return false;
        }
        for (int i = 0; i < letters; i++) {
            trial.text[row][i] = pad.signs[pad.textOf[place] + i] - 'a';
        }
        takeTrial();
        return true;
    }

    public int append(int key, int letter) {
        int row = now.rowOf(key);
        if (row == NO) {
            return NO_SUCH;
        }
        if (letter < 0 || letter >= ALPHABET) {
            return BAD_VALUE;
        }
        int letters = now.lettersOf[row];
        if (letters >= LETTERS) {
            return TOO_MANY;
        }
        trial.copyFrom(now);
        if (trial.layRow(key, letters + 1) == NO) {
            return NOT_POSSIBLE;
        }
        trial.text[row][letters] = letter;
        history.record(now);
        takeTrial();
        return letters + 1;
    }

    public int delete(int key) {
        int row = now.rowOf(key);
        if (row == NO) {
            return NO_SUCH;
        }
        history.record(now);
        int freed = now.cellsOf(row);
        now.removeRow(row);
        return freed;
    }

    public int pack() {
        if (!tryPacking(now.headMost)) {
            return NOT_POSSIBLE;
        }
        history.record(now);
        takeTrial();
        return now.pages.pagesInUse();
    }

    /** Leaves in the trial what packing all anew brings, unless it answers that it cannot be. */
    private boolean tryPacking(int head) {
        trial.copyFrom(now);
        trial.headMost = head;
        return trial.packAll();
    }

    private void takeTrial() {
        Book before = now;
        now = trial;
        trial = before;
    }

    // ---- what there is

    public int row(int key, int what) {
        int row = now.rowOf(key);
        if (row == NO) {
            return NO_SUCH;
        }
        switch (what) {
            case 0: return now.lettersOf[row];
            case 1: return now.homeOf[row] / SLOTS;
            case 2: return now.homeOf[row] % SLOTS;
            case 3: return now.headOf[row] / SLOTS;
            case 4: return now.headOf[row] % SLOTS;
            case 5: return now.hasMoved(row) ? 1 : 0;
            case 6: return now.pages.cells[now.headOf[row]] - HEAD_FRAME;
            case 7: return now.piecesOf[row];
            case 8: return now.costOf(row);
            case 9: return now.cellsOf(row);
            default: return BAD_VALUE;
        }
    }

    public int letter(int key, int place) {
        int row = now.rowOf(key);
        if (row == NO || place < 0 || place >= now.lettersOf[row]) {
            return NO_SUCH;
        }
        return now.text[row][place];
    }

    public int piece(int key, int piece, int what) {
        int row = now.rowOf(key);
        if (row == NO || piece < 0 || piece >= now.piecesOf[row]) {
            return NO_SUCH;
        }
        int spot = now.pieceOf[row][piece];
        switch (what) {
            case 0: return spot / SLOTS;
            case 1: return spot % SLOTS;
            case 2: return now.pages.cells[spot] - PIECE_FRAME;
            default: return BAD_VALUE;
        }
    }

    public int page(int page, int what) {
        if (page < 0 || page >= PAGES) {
            return NO_SUCH;
        }
        switch (what) {
            case 0: return now.pages.free[page];
            case 1: return now.pages.slotsOf(page);
            case 2: return now.pages.thingsOn(page, A_HEAD);
            case 3: return now.pages.thingsOn(page, A_PIECE);
            case 4: return now.pages.thingsOn(page, A_NOTE);
            case 5: return now.pages.thingsOn(page, A_GAP);
            default: return BAD_VALUE;
        }
    }

    public int slot(int page, int slot, int what) {
        if (page < 0 || page >= PAGES || slot < 0 || slot >= now.pages.slotsOf(page)) {
            return NO_SUCH;
        }
        int spot = page * SLOTS + slot;
        switch (what) {
            case 0: return now.pages.kind[spot];
            case 1: return now.pages.kind[spot] == A_GAP ? NONE : now.pages.owner[spot];
            case 2: return now.pages.cells[spot];
            default: return BAD_VALUE;
        }
    }

    public int count(int what) {
        switch (what) {
            case 0: return now.rows;
            case 1: return now.pages.pagesInUse();
            case 2: return now.pages.thingsInAll(A_NOTE);
            case 3: return now.pages.thingsInAll(A_PIECE);
            case 4: return now.pages.freeInAll();
            case 5: return now.costInAll();
            case 6: return now.lettersInAll();
            case 7: return now.rows == 0 ? NONE : now.greatestCost();
            case 8: return now.headMost;
            case 9: return now.pieceMost;
            case 10: return pad.length;
            case 11: return history.held;
            default: return BAD_VALUE;
        }
    }

    public int key(int place) {
        int before = 0;
        for (int key = 0; key < KEYS; key++) {
            if (now.rowOf(key) != NO) {
                if (before == place) {
                    return key;
                }
                before++;
            }
        }
        return NO_SUCH;
    }

    // ---- what if

    public int ifPacked(int head, int what) {
        if (head < 0 || head > GREATEST_HEAD || what < 0 || what > 2) {
            return BAD_VALUE;
        }
        if (!tryPacking(head)) {
            return NOT_POSSIBLE;
        }
        if (what == 0) {
            return trial.costInAll();
        }
        return what == 1 ? trial.pages.pagesInUse() : trial.pages.thingsInAll(A_PIECE);
    }

    public int bestHead() {
        if (now.rows == 0) {
            return NONE;
        }
        int best = NONE;
        int least = 0;
        for (int head = 0; head <= GREATEST_HEAD; head += HEAD_STEP) {
            if (tryPacking(head)) {
                int cost = trial.costInAll();
                if (best == NONE || cost < least) {
                    best = head;
                    least = cost;
                }
            }
        }
        return best;
    }

    public int most(int key) {
        if (key < 0 || key >= KEYS) {
            return BAD_VALUE;
        }
        for (int letters = LETTERS; letters >= 0; letters--) {
            trial.copyFrom(now);
            if (trial.layRow(key, letters) != NO) {
                return letters;
            }
        }
        return NONE;
    }

    // ---- texts

    public int put(long characters) {
        int signs = signsIn(characters);
        if (signs == 0) {
            return BAD_VALUE;
        }
        if (pad.length + signs > PAD_SIGNS) {
            return TOO_MANY;
        }
        for (int i = signs - 1; i >= 0; i--) {
            pad.signs[pad.length] = signOf(characters, i);
            pad.length++;
        }
        return pad.length;
    }

    /** How many characters the number gives; 0 if it is not a number of put. */
    private static int signsIn(long characters) {
        int signs = 0;
        while (signs < SIGNS_AT_ONCE && signOf(characters, signs) != 0) {
            int sign = signOf(characters, signs);
            if (sign < LEAST_SIGN || sign > GREATEST_SIGN) {
                return 0;
            }
            signs++;
        }
        // A shift by all 64 bits would shift by none.
        boolean rest = signs < SIGNS_AT_ONCE && characters >>> (SIGN_BITS * signs) != 0;
        return rest ? 0 : signs;
    }

    private static int signOf(long characters, int fromBehind) {
        return (int) (characters >>> (SIGN_BITS * fromBehind)) & SIGN_MASK;
    }

    public int wipe() {
        int before = pad.length;
        pad.length = 0;
        return before;
    }

    public int fault() {
        int fault = pad.read();
        return fault == NO ? NONE : fault;
    }

    // ---- undo, saving

    public int undo() {
        if (history.held == 0) {
            return NOT_POSSIBLE;
        }
        history.giveBack(now);
        return history.held;
    }

    public int save(int place) {
        if (place < 0 || place >= SAVES) {
            return BAD_VALUE;
        }
        if (saved[place] == null) {
            saved[place] = new Book();
        }
        saved[place].copyFrom(now);
        return now.rows;
    }

    public int restore(int place) {
        if (place < 0 || place >= SAVES) {
            return BAD_VALUE;
        }
        if (saved[place] == null) {
            return NOT_POSSIBLE;
        }
        history.record(now);
        now.copyFrom(saved[place]);
        return now.rows;
    }

    /** What lies in the pages. A spot is the number of a slot among the slots of all pages. */
    private static final class Pages {
        final int[] kind = new int[SPOTS];
        final int[] owner = new int[SPOTS];
        final int[] cells = new int[SPOTS];
        final int[] free = new int[PAGES];

        Pages() {
            Arrays.fill(free, ROOM);
        }

        void copyFrom(Pages other) {
            System.arraycopy(other.kind, 0, kind, 0, SPOTS);
            System.arraycopy(other.owner, 0, owner, 0, SPOTS);
            System.arraycopy(other.cells, 0, cells, 0, SPOTS);
            System.arraycopy(other.free, 0, free, 0, PAGES);
        }

        void clear() {
            Arrays.fill(kind, A_GAP);
            Arrays.fill(cells, 0);
            Arrays.fill(free, ROOM);
        }

        boolean hasRoom(int page, int size) {
            return free[page] >= size;
        }

        void occupy(int spot, int thing, int key, int size) {
            kind[spot] = thing;
            owner[spot] = key;
            cells[spot] = size;
            free[spot / SLOTS] -= size;
        }

        void vacate(int spot) {
            free[spot / SLOTS] += cells[spot];
            kind[spot] = A_GAP;
            cells[spot] = 0;
        }

        /** Places a thing as the document says; answers its spot, NO if it cannot be placed. */
        int place(int thing, int key, int size) {
            for (int page = 0; page < PAGES; page++) {
                if (hasRoom(page, size)) {
                    int spot = lowestGap(page);
                    if (spot != NO) {
                        occupy(spot, thing, key, size);
                    }
                    return spot;
                }
            }
            return NO;
        }

        private int lowestGap(int page) {
            for (int slot = 0; slot < SLOTS; slot++) {
                int spot = page * SLOTS + slot;
                if (kind[spot] == A_GAP) {
                    return spot;
                }
            }
            return NO;
        }

        int slotsOf(int page) {
            for (int slot = SLOTS - 1; slot >= 0; slot--) {
                if (kind[page * SLOTS + slot] != A_GAP) {
                    return slot + 1;
                }
            }
            return 0;
        }

        int thingsOn(int page, int thing) {
            int slots = slotsOf(page);
            int found = 0;
            for (int slot = 0; slot < slots; slot++) {
                if (kind[page * SLOTS + slot] == thing) {
                    found++;
                }
            }
            return found;
        }

        int thingsInAll(int thing) {
            int found = 0;
            for (int page = 0; page < PAGES; page++) {
                found += thingsOn(page, thing);
            }
            return found;
        }

        int pagesInUse() {
            int used = 0;
            for (int page = 0; page < PAGES; page++) {
                if (free[page] < ROOM) {
                    used++;
                }
            }
            return used;
        }

        int freeInAll() {
            int sum = 0;
            for (int page = 0; page < PAGES; page++) {
                sum += free[page];
            }
            return sum;
        }
    }

    /** Everything that undo and restore bring back: settings, rows and pages. */
    private static final class Book {
        int headMost = FIRST_HEAD;
        int pieceMost = FIRST_PIECE;
        int rows = 0;
        final Pages pages = new Pages();
        /** By key: the number under which the row is kept; all that follows is by that number. */
        final int[] numberOf = new int[KEYS];
        final int[] keyOf = new int[ROWS];
        final int[] lettersOf = new int[ROWS];
        final int[] homeOf = new int[ROWS];
        final int[] headOf = new int[ROWS];
        final int[] piecesOf = new int[ROWS];
        final int[][] pieceOf = new int[ROWS][LETTERS];
        final int[][] text = new int[ROWS][LETTERS];

        Book() {
            Arrays.fill(numberOf, NO);
            Arrays.fill(keyOf, NO);
        }

        void copyFrom(Book other) {
            headMost = other.headMost;
            pieceMost = other.pieceMost;
            rows = other.rows;
            pages.copyFrom(other.pages);
            System.arraycopy(other.numberOf, 0, numberOf, 0, KEYS);
            System.arraycopy(other.keyOf, 0, keyOf, 0, ROWS);
            System.arraycopy(other.lettersOf, 0, lettersOf, 0, ROWS);
            System.arraycopy(other.homeOf, 0, homeOf, 0, ROWS);
            System.arraycopy(other.headOf, 0, headOf, 0, ROWS);
            System.arraycopy(other.piecesOf, 0, piecesOf, 0, ROWS);
            for (int row = 0; row < ROWS; row++) {
                System.arraycopy(other.pieceOf[row], 0, pieceOf[row], 0, LETTERS);
                System.arraycopy(other.text[row], 0, text[row], 0, LETTERS);
            }
        }

        int rowOf(int key) {
            return key < 0 || key >= KEYS ? NO : numberOf[key];
        }

        /**
         * Writes a row, new or not, with that many letters; which ones is left to the caller.
         * If it answers NO the book is spoilt, so it is called on a trial only.
         */
        int layRow(int key, int letters) {
            int row = rowOf(key);
            if (row == NO) {
                row = addRow(key);
                if (row == NO) {
                    return NO;
                }
                lettersOf[row] = letters;
                return layNew(row) ? row : NO;
            }
            lettersOf[row] = letters;
            return layAgain(row) ? row : NO;
        }

        private int addRow(int key) {
            for (int row = 0; row < ROWS; row++) {
                if (keyOf[row] == NO) {
                    keyOf[row] = key;
                    numberOf[key] = row;
                    rows++;
                    return row;
                }
            }
            return NO;
        }

        private boolean layNew(int row) {
            int spot = pages.place(A_HEAD, keyOf[row], headCells(row));
            homeOf[row] = spot;
            headOf[row] = spot;
            return spot != NO && layPieces(row);
        }

        private boolean layAgain(int row) {
            liftPieces(row);
            pages.vacate(headOf[row]);
            headOf[row] = layHeadAgain(row);
            return headOf[row] != NO && layPieces(row);
        }

        /** Lays the head of a row whose head and pieces were taken away; answers its spot or NO. */
        private int layHeadAgain(int row) {
            int key = keyOf[row];
            int home = homeOf[row];
            int before = headOf[row];
            int size = headCells(row);
            if (pages.hasRoom(before / SLOTS, size)) {
                pages.occupy(before, A_HEAD, key, size);
                return before;
            }
            if (before == home) {
                pages.occupy(home, A_NOTE, key, NOTE_CELLS);
                return pages.place(A_HEAD, key, size);
            }
            if (pages.hasRoom(home / SLOTS, size - NOTE_CELLS)) {
                pages.vacate(home);
                pages.occupy(home, A_HEAD, key, size);
                return home;
            }
            return pages.place(A_HEAD, key, size);
        }

        private boolean layPieces(int row) {
            int left = lettersOf[row] - headLetters(row);
            int laid = 0;
            for (; laid < LETTERS && left > 0; laid++) {
                int letters = Math.min(left, pieceMost);
                int spot = pages.place(A_PIECE, keyOf[row], PIECE_FRAME + letters);
                if (spot == NO) {
                    return false;
                }
                pieceOf[row][laid] = spot;
                left -= letters;
            }
            piecesOf[row] = laid;
            return true;
        }

        private void liftPieces(int row) {
            for (int i = 0; i < piecesOf[row]; i++) {
                pages.vacate(pieceOf[row][i]);
            }
            piecesOf[row] = 0;
        }

        /** How many letters a head that is written now gets; one that lies may have others. */
        private int headLetters(int row) {
            return Math.min(lettersOf[row], headMost);
        }

        private int headCells(int row) {
            return HEAD_FRAME + headLetters(row);
        }

        void removeRow(int row) {
            liftPieces(row);
            pages.vacate(headOf[row]);
            if (hasMoved(row)) {
                pages.vacate(homeOf[row]);
            }
            numberOf[keyOf[row]] = NO;
            keyOf[row] = NO;
            rows--;
        }

        /** Answers whether all rows could be written; if not, the book is spoilt. */
        boolean packAll() {
            pages.clear();
            for (int key = 0; key < KEYS; key++) {
                if (numberOf[key] != NO && !layNew(numberOf[key])) {
                    return false;
                }
            }
            return true;
        }

        boolean hasMoved(int row) {
            return headOf[row] != homeOf[row];
        }

        int costOf(int row) {
            int page = headOf[row] / SLOTS;
            int cost = page == homeOf[row] / SLOTS ? 1 : 2;
            for (int i = 0; i < piecesOf[row]; i++) {
                int next = pieceOf[row][i] / SLOTS;
                if (next != page) {
                    cost++;
                }
                page = next;
            }
            return cost;
        }

        int cellsOf(int row) {
            int sum = pages.cells[headOf[row]];
            for (int i = 0; i < piecesOf[row]; i++) {
                sum += pages.cells[pieceOf[row][i]];
            }
            return hasMoved(row) ? sum + NOTE_CELLS : sum;
        }

        int costInAll() {
            int sum = 0;
            for (int row = 0; row < ROWS; row++) {
                if (keyOf[row] != NO) {
                    sum += costOf(row);
                }
            }
            return sum;
        }

        int greatestCost() {
            int greatest = 0;
            for (int row = 0; row < ROWS; row++) {
                if (keyOf[row] != NO) {
                    greatest = Math.max(greatest, costOf(row));
                }
            }
            return greatest;
        }

        int lettersInAll() {
            int sum = 0;
            for (int row = 0; row < ROWS; row++) {
                if (keyOf[row] != NO) {
                    sum += lettersOf[row];
                }
            }
            return sum;
        }
    }

    /** The pad, and what reading it from left to right found. */
    private static final class Pad {
        final int[] signs = new int[PAD_SIGNS];
        int length = 0;
        int rows = 0;
        final int[] keyOf = new int[PAD_ROWS];
        final int[] textOf = new int[PAD_ROWS];
        final int[] lettersOf = new int[PAD_ROWS];
        private boolean inText = false;
        private int digits = 0;
        private int number = 0;

        /** Finds the rows of the pad; answers its fault, NO if there is none. */
        int read() {
            rows = 0;
            awaitKey();
            for (int at = 0; at < length; at++) {
                boolean stands = inText ? readInText(signs[at]) : readInKey(at, signs[at]);
                if (!stands) {
                    return at;
                }
            }
            return inText ? NO : length;
        }

        private void awaitKey() {
            inText = false;
            digits = 0;
            number = 0;
        }

        private boolean readInKey(int at, int sign) {
            if (sign == '=') {
                return digits > 0 && startText(at + 1);
            }
            boolean leadingZero = digits > 0 && number == 0;
            if (sign < '0' || sign > '9' || leadingZero) {
                return false;
            }
            number = number * 10 + sign - '0';
            digits++;
            return number < KEYS;
        }

        private boolean startText(int from) {
            if (rows >= PAD_ROWS) {
                return false;
            }
            keyOf[rows] = number;
            textOf[rows] = from;
            lettersOf[rows] = 0;
            rows++;
            inText = true;
            return true;
        }

        private boolean readInText(int sign) {
            if (sign == ';') {
                awaitKey();
                return true;
            }
            int row = rows - 1;
            if (sign < 'a' || sign > 'z' || row < 0 || lettersOf[row] >= LETTERS) {
                return false;
            }
            lettersOf[row]++;
            return true;
        }
    }

    /** The latest states that can come back, in a ring. */
    private static final class History {
        final Book[] states = new Book[HISTORY];
        int held = 0;
        private int oldest = 0;

        void record(Book state) {
            int place = (oldest + held) % HISTORY;
            if (states[place] == null) {
                states[place] = new Book();
            }
            states[place].copyFrom(state);
            if (held < HISTORY) {
                held++;
            } else {
                oldest = (oldest + 1) % HISTORY;
            }
        }

        void giveBack(Book state) {
            int place = (oldest + held - 1) % HISTORY;
            if (held == 0 || states[place] == null) {
                return;
            }
            state.copyFrom(states[place]);
            held--;
        }
    }
}
