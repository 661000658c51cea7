/** The boundary cases of 'Texts' and of promises 17 to 19: each sentence that names one has a test here. */
public final class TextsBoundsTest {
    private static final int BAD_VALUE = -2, BAD_TEXT = -3, TOO_MANY = -4, NONE = -6;
    private static final String DIGITS = "0123456789";
    private static final String ALPHABET = "abcdefghijklmnopqrstuvwxyz";
    private static final String FORTY = Check.letters(40);
    private static final Check check = new Check();

    public static void main(String[] args) {
        padOfEighty();
        rowsOfAText();
        partsOfARow();
        leadingZeros();
        keys();
        fortyLetters();
        firstFault();
        digitAbove();
        letterTooMany();
        tooEarly();
        empty();
        whatCanStand();
        putAppends();
        lowestIsLast();
        nothingAbove();
        oneToEight();
        noCharacter();
        codes();
        notZeroAbove();
        putHowLong();
        putTooMany();
        wipe();
        faultNone();
        check.finish();
    }

    private static void due(String call, long got, long want) {
        check.due(call, got, want);
    }

    private static OverflowRows withPad(String text) {
        OverflowRows x = new OverflowRows();
        Check.put(x, text);
        due("length of " + text, x.count(10), text.length());
        return x;
    }

    /** The fault of a text, and that write() thinks the same of it. */
    private static void fault(String text, int want) {
        OverflowRows x = withPad(text);
        due("fault() of " + text, x.fault(), want);
        due("write() of " + text, x.write() == BAD_TEXT ? 1 : 0, want == NONE ? 0 : 1);
        due("pad of " + text + " after write()", x.count(10), want == NONE ? 0 : text.length());
    }

    // ---- Texts

    private static void padOfEighty() {
        check.sentence("Texts", "The pad is a text of at most 80 characters");
        String eighty = "5=" + FORTY + ";6=" + Check.letters(35);
        OverflowRows x = withPad(eighty.substring(0, 79));
        due("put() of the 80th", x.put(eighty.charAt(79)), 80);
        due("put() of an 81st", x.put('a'), TOO_MANY);
        due("fault()", x.fault(), NONE);
        due("write()", x.write(), 2);
        due("letter(6, 34)", x.letter(6, 34), 34 % 26);
        due("row(6, 0)", x.row(6, 0), 35);
        OverflowRows y = withPad(eighty.substring(0, 79) + ";");
        due("fault() of a semicolon at the end", y.fault(), 80);
        OverflowRows z = withPad(eighty.substring(0, 79) + "1");
        due("fault() of the 80th", z.fault(), 79);
    }

    private static void rowsOfAText() {
        check.sentence("Texts", "text = row { \";\" row }");
        fault("1=", NONE);
        fault("1=;2=", NONE);
        fault("1=a;2=b;3=c", NONE);
        fault(";", 0);
        fault(";1=", 0);
        fault("1=;", 3);
        fault("1=;;2=", 3);
        fault("1=a,2=b", 3);
        fault("1=a2=b", 3);
        StringBuilder most = new StringBuilder("0=");
        for (int row = 1; row < 27; row++) {
            most.append(";9=");
        }
        fault(most.toString(), NONE);
        due("rows of it", Check.write(new OverflowRows(), most.toString()), 27);
    }

    private static void partsOfARow() {
        check.sentence("Texts", "row = key \"=\" { letter }");
        fault("7=", NONE);
        fault("7=a", NONE);
        fault("=a", 0);
        fault("a", 0);
        fault("7a", 1);
        fault("7;", 1);
        fault("7==", 2);
        fault("7=a=", 3);
        fault("7=a7", 3);
        fault("7=aZ", 3);
        fault("77=b;7", 6);
    }

    private static void leadingZeros() {
        check.sentence("Texts", "a key is a number from 0 to 99 without leading zeros");
        fault("0=", NONE);
        fault("00=", 1);
        fault("01=", 1);
        fault("09", 1);
        fault("00", 1);
        fault("5=;0=", NONE);
        fault("5=;00=", 4);
        fault("10=", NONE);
        fault("90=;20=", NONE);
    }

    private static void keys() {
        check.sentence("Texts", "a key is a number from 0 to 99");
        for (int key = 0; key < 100; key++) {
            fault(key + "=", NONE);
            OverflowRows x = Made.with(key + "=x");
            due("key(0)", x.key(0), key);
        }
        fault("-1=", 0);
        fault("+1=", 0);
        for (int key : new int[] {100, 101, 110, 199, 990, 999}) {
            fault(key + "=", 2);
        }
    }

    private static void fortyLetters() {
        check.sentence("Texts", "there are at most 40 letters");
        fault("5=" + FORTY.substring(1), NONE);
        fault("5=" + FORTY, NONE);
        fault("5=" + FORTY + ";6=" + FORTY.substring(5), NONE);
        fault("5=" + FORTY + "a", 42);
    }

    private static void firstFault() {
        check.sentence("Texts", "The fault is the index of the first character that cannot stand at its place "
                + "when the text is read from left to right");
        fault("!", 0);
        fault("a=;b=", 0);
        fault("1=A;01=", 2);
        fault("1=a;01=A", 5);
        fault("01=A", 1);
        fault("100=A", 2);
        fault("1=a;2=b;3=c!", 11);
        fault("1!", 1);
        fault("1=!a", 2);
        fault("1=;!", 3);
    }

    private static void digitAbove() {
        check.sentence("Texts", "(also of a digit by which a key would be above 99");
        fault("100=", 2);
        fault("100", 2);
        fault("991=", 2);
        fault("1=;100=", 5);
        fault("99=;99=;999=", 10);
        fault("1000000000000=", 2);
    }

    private static void letterTooMany() {
        check.sentence("Texts", "or of a 41st letter)");
        fault("5=" + FORTY + "z", 42);
        fault("15=" + FORTY + "z", 43);
        fault("1=;15=" + FORTY + "zzz;", 46);
        fault("5=" + FORTY + "Z", 42);
        // The first row's letters do not count for the second one.
        fault("5=" + Check.letters(30) + ";6=" + Check.letters(40), NONE);
        fault("5=" + Check.letters(30) + ";6=" + Check.letters(41), 75);
    }

    private static void tooEarly() {
        check.sentence("Texts", "if there is none and the text ends too early");
        fault("5", 1);
        fault("0", 1);
        fault("10", 2);
        fault("99", 2);
        fault("5=;", 3);
        fault("5=a;", 4);
        fault("5=a;6", 5);
        fault("5=a;60", 6);
        fault("5=" + FORTY + ";", 43);
    }

    private static void empty() {
        check.sentence("Texts", "(also if it is empty), it is the length of the text");
        OverflowRows x = new OverflowRows();
        due("fault() of a new object", x.fault(), 0);
        due("write()", x.write(), BAD_TEXT);
        Check.put(x, "5=a");
        due("fault() of a row", x.fault(), NONE);
        x.wipe();
        due("fault() after wipe()", x.fault(), 0);
        Check.write(x, "5=a");
        due("fault() after write()", x.fault(), 0);
    }

    private static void whatCanStand() {
        check.sentence("Texts", "the first character that cannot stand at its place");
        afterThis("", DIGITS);
        afterThis("0", "=");
        afterThis("5", DIGITS + "=");
        afterThis("10", "=");
        afterThis("99", "=");
        afterThis("5=", ALPHABET + ";");
        afterThis("5=a", ALPHABET + ";");
        afterThis("5=" + FORTY.substring(1), ALPHABET + ";");
        afterThis("5=" + FORTY, ";");
        afterThis("5=;", DIGITS);
        afterThis("5=;0", "=");
        afterThis("5=a;9", DIGITS + "=");
        afterThis("5=a;42", "=");
    }

    /** Whether each character that a pad can have is a fault behind these others, or is none. */
    private static void afterThis(String before, String good) {
        for (char character = 33; character <= 126; character++) {
            OverflowRows x = withPad(before + character);
            boolean stands = good.indexOf(character) >= 0;
            due(before + character + " has its fault there", x.fault() == before.length() ? 1 : 0, stands ? 0 : 1);
        }
    }

    // ---- put

    private static void putAppends() {
        check.sentence("Promise 17", "Appends characters to the pad.");
        OverflowRows x = new OverflowRows();
        for (char sign : "3=fed;4=".toCharArray()) {
            x.put(sign);
        }
        x.put(Check.number("xyz;3="));
        x.put(Check.number("cba"));
        due("count(10)", x.count(10), 17);
        due("write()", x.write(), 3);
        for (int place = 0; place < 3; place++) {
            due("letter(3, " + place + "), written twice", x.letter(3, place), 2 - place);
            due("letter(4, " + place + ")", x.letter(4, place), 23 + place);
        }
    }

    private static void lowestIsLast() {
        check.sentence("Promise 17", "its lowest 8 bits are the last character, the next 8 bits the one before, "
                + "and so on");
        OverflowRows x = new OverflowRows();
        due("put() of 5=xy", x.put(0x353d7879L), 4);
        due("put() of z", x.put(0x7aL), 5);
        due("write()", x.write(), 1);
        due("letter(5, 0)", x.letter(5, 0), 23);
        due("letter(5, 1)", x.letter(5, 1), 24);
        due("letter(5, 2)", x.letter(5, 2), 25);
        due("put() of 12=abcde", x.put(0x31323d6162636465L), 8);
        due("write()", x.write(), 1);
        due("letter(12, 0)", x.letter(12, 0), 0);
        due("letter(12, 4)", x.letter(12, 4), 4);
    }

    private static void nothingAbove() {
        check.sentence("Promise 17", "8 bits that are 0 mean that there are no more characters, "
                + "and everything above them has to be 0, too");
        for (int characters = 1; characters < 8; characters++) {
            long number = Check.number(Check.letters(characters));
            due("put() of " + characters, new OverflowRows().put(number), characters);
            for (int bit = 8 * characters + 8; bit < 64; bit++) {
                due("put() of " + characters + " with bit " + bit, new OverflowRows().put(number | 1L << bit), BAD_VALUE);
            }
        }
    }

    private static void oneToEight() {
        check.sentence("Promise 17", "`characters`: 1 to 8 characters");
        for (int characters = 1; characters <= 8; characters++) {
            String text = "12=abcde".substring(0, characters);
            OverflowRows x = new OverflowRows();
            due("put() of " + text, x.put(Check.number(text)), characters);
            due("count(10)", x.count(10), characters);
            due("fault()", x.fault(), characters < 3 ? characters : NONE);
        }
    }

    private static void noCharacter() {
        check.sentence("Promise 17", "BAD_VALUE if there is no character");
        OverflowRows x = withPad("5=");
        due("put(0)", x.put(0), BAD_VALUE);
        for (int bit = 8; bit < 64; bit++) {
            due("put() of bit " + bit, x.put(1L << bit), BAD_VALUE);
        }
        due("put() of a with nothing behind", x.put(0x6100L), BAD_VALUE);
        due("count(10)", x.count(10), 2);
        due("write()", x.write(), 1);
    }

    private static void codes() {
        check.sentence("Promise 17", "a code is not 33 to 126");
        for (int place = 0; place < 8; place++) {
            long others = 0x6161616161616161L & ~(255L << 8 * place);
            for (int code = 1; code < 256; code++) {
                OverflowRows x = new OverflowRows();
                boolean good = code >= 33 && code <= 126;
                due("put() of code " + code + " at place " + place,
                        x.put(others | (long) code << 8 * place), good ? 8 : BAD_VALUE);
                due("count(10)", x.count(10), good ? 8 : 0);
            }
        }
        for (int code : new int[] {1, 31, 32, 127, 128, 160, 255}) {
            due("put() of code " + code, new OverflowRows().put(code), BAD_VALUE);
        }
        due("put() of code 33", new OverflowRows().put(33), 1);
        due("put() of code 126", new OverflowRows().put(126), 1);
    }

    private static void notZeroAbove() {
        check.sentence("Promise 17", "or a bit above 8 bits that are 0 is not 0");
        OverflowRows x = new OverflowRows();
        long[] bad = {0x610061L, 0x6100000000000061L, 0x0100000000000061L, Long.MIN_VALUE | 0x61, Long.MIN_VALUE,
            0x6161616161610061L, 0x0061616100616161L, 0x6100616161616161L};
        for (long number : bad) {
            due("put(" + number + ")", x.put(number), BAD_VALUE);
        }
        due("count(10)", x.count(10), 0);
        due("put() of seven", x.put(0x0061616161616161L), 7);
    }

    private static void putHowLong() {
        check.sentence("Promise 17", "Returns the length of the pad then");
        OverflowRows x = new OverflowRows();
        due("put() of one", x.put('5'), 1);
        due("put() of one more", x.put('='), 2);
        due("put() of eight", x.put(Check.number("abcdefgh")), 10);
        due("put() of bad ones", x.put(32), BAD_VALUE);
        due("put() of two", x.put(Check.number("ij")), 12);
        due("count(10)", x.count(10), 12);
        due("history", x.count(11), 0);
        x.wipe();
        due("put() after wipe()", x.put('5'), 1);
    }

    private static void putTooMany() {
        check.sentence("Promise 17", "TOO_MANY if the pad would be longer than 80");
        for (int length = 73; length <= 80; length++) {
            for (int more = 1; more <= 8; more++) {
                OverflowRows x = withPad("a".repeat(length));
                boolean fits = length + more <= 80;
                due("put() of " + more + " to " + length, x.put(Check.number(Check.letters(more))),
                        fits ? length + more : TOO_MANY);
                due("count(10)", x.count(10), fits ? length + more : length);
            }
        }
        due("put() of 8 to 72", withPad("a".repeat(72)).put(Check.number("abcdefgh")), 80);
    }

    // ---- wipe, fault

    private static void wipe() {
        check.sentence("Promise 18", "Empties the pad, and returns the length that it had.");
        OverflowRows x = new OverflowRows();
        due("wipe() of nothing", x.wipe(), 0);
        x.put('5');
        due("wipe() of one", x.wipe(), 1);
        due("count(10)", x.count(10), 0);
        due("wipe() again", x.wipe(), 0);
        Check.put(x, "5=" + FORTY + ";6=" + FORTY.substring(5));
        due("wipe() of 80", x.wipe(), 80);
        due("count(10)", x.count(10), 0);
        due("put() after it", x.put(Check.number("7=")), 2);
        due("write()", x.write(), 1);
        due("row(7, 0), nothing of what was wiped", x.row(7, 0), 0);
        due("rows", x.count(0), 1);
        due("wipe() after write()", x.wipe(), 0);
        due("history", x.count(11), 1);
    }

    private static void faultNone() {
        check.sentence("Promise 19", "Returns the fault of the pad, NONE if there is none.");
        OverflowRows x = withPad("5=abc;6");
        due("fault()", x.fault(), 7);
        due("fault() again", x.fault(), 7);
        x.put('=');
        due("fault() with the rest", x.fault(), NONE);
        due("fault() again", x.fault(), NONE);
        x.put('!');
        due("fault() with too much", x.fault(), 8);
        x.put('!');
        due("fault() with more", x.fault(), 8);
        due("count(10)", x.count(10), 10);
        due("history", x.count(11), 0);
    }
}
