/** Promises 17 to 19: the pad and its fault. */
public final class TextsTest {
    private static final int BAD_VALUE = -2, TOO_MANY = -4, NONE = -6;
    private static final Check check = new Check();

    public static void main(String[] args) {
        promise17();
        promise17TooMany();
        promise18();
        promise19();
        check.finish();
    }

    private static void due(String call, long got, long want) {
        check.due(call, got, want);
    }

    private static void promise17() {
        OverflowRows x = new OverflowRows();
        long[] bad = {0, 32, 127, 128, 255, 0x4100, 0x610061, 0x20616161, 0x61617f61, -1, Long.MIN_VALUE,
            Long.MAX_VALUE, 0x6161616161616100L, 0x0061616161616100L, 0x0161616161616161L, 0x6100616161616161L,
            0x8061616161616161L, 1L << 32 | 0x61, 0x6100000000000000L, 0x6100000000000061L};
        for (long number : bad) {
            due("put(" + number + ")", x.put(number), BAD_VALUE);
        }
        due("put: nothing came", x.count(10), 0);
        due("put: least code", x.put(33), 1);
        due("put: greatest code", x.put(126), 2);
        due("put: eight of them", x.put(0x7e217e217e217e21L), 10);
        due("put: two of them", x.put(0x217e), 12);
        x.wipe();
        due("put: in order", x.put(Check.number("12=abcde")), 8);
        due("put: to the end", x.put(Check.number("fg")), 10);
        due("put: not a change", x.count(11), 0);
        due("put: written", x.write(), 1);
        for (int place = 0; place < 7; place++) {
            due("put: letter " + place, x.letter(12, place), place);
        }
    }

    private static void promise17TooMany() {
        OverflowRows x = new OverflowRows();
        for (int i = 1; i <= 9; i++) {
            due("put: eight more", x.put(Check.number("abcdefgh")), 8 * i);
        }
        due("put: 79", x.put(Check.number("abcdefg")), 79);
        due("put: 81", x.put(Check.number("ab")), TOO_MANY);
        due("put: bad first", x.put(32), BAD_VALUE);
        due("put: none came", x.count(10), 79);
        due("put: 80", x.put('a'), 80);
        due("put: 81 by one", x.put('a'), TOO_MANY);
        due("put: still 80", x.count(10), 80);
    }

    private static void promise18() {
        OverflowRows x = new OverflowRows();
        due("wipe: nothing", x.wipe(), 0);
        Check.put(x, "5=abcdefghij");
        due("wipe()", x.wipe(), 12);
        due("wipe: empty", x.count(10), 0);
        due("wipe: again", x.wipe(), 0);
        due("wipe: not a change", x.count(11), 0);
        Check.put(x, "6=z");
        due("wipe: new text", x.write(), 1);
        due("wipe: nothing of the old", x.row(6, 0), 1);
    }

    private static void fault(String text, int want) {
        OverflowRows x = new OverflowRows();
        Check.put(x, text);
        due("fault of " + text, x.fault(), want);
        due("fault again of " + text, x.fault(), want);
        due("length of " + text, x.count(10), text.length());
        due("history of " + text, x.count(11), 0);
    }

    private static void promise19() {
        String forty = Check.letters(40);
        String[] good = {"0=", "5=", "9=a", "10=az", "99=zz", "5=;6=", "5=a;5=b;5=c", "1=;0=;10=;", "7=" + forty};
        for (String text : good) {
            fault(text, text.equals("1=;0=;10=;") ? text.length() : NONE);
        }
        String[] early = {"", "5", "0", "12", "5=a;", "5=a;6", "5=a;99"};
        for (String text : early) {
            fault(text, text.length());
        }
        String[] zero = {"=", "a=", ";", "/=a", ":=a", "-1=a", "+1=a"};
        for (String text : zero) {
            fault(text, 0);
        }
        fault("00=", 1);
        fault("01=", 1);
        fault("09", 1);
        fault("5;", 1);
        fault("5a=", 1);
        fault("5/", 1);
        fault("5:", 1);
        fault("100=", 2);
        fault("990=", 2);
        fault("12;", 2);
        fault("5==", 2);
        fault("5=A", 2);
        fault("5=`", 2);
        fault("5={", 2);
        fault("5=a1", 3);
        fault("5=;;", 3);
        fault("5=a;06=", 5);
        fault("5=a;100=", 6);
        fault("5=a;=", 4);
        fault("5=" + forty + "a", 42);
        fault("15=" + forty + "a;!", 43);
        fault("5=" + forty + ";6=" + Check.letters(34) + ";", 80);
        fault("5=" + forty + ";6=" + Check.letters(35), NONE);
        fault("5=" + Check.letters(36) + ";6=" + Check.letters(36) + "1", 77);
        StringBuilder many = new StringBuilder("0=");
        for (int i = 0; i < 26; i++) {
            many.append(";1=");
        }
        fault(many.toString(), NONE);
        OverflowRows x = new OverflowRows();
        due("27 rows", Check.write(x, many.toString()), 27);
        due("two rows of them", x.count(0), 2);
    }
}
