/** What the tests share: counting wrong answers, and putting texts. */
final class Check {
    private int wrong = 0;
    private int asked = 0;

    void due(String call, long got, long want) {
        asked++;
        if (got != want) {
            wrong++;
            System.out.println(call + " answered " + got + ", due is " + want);
        }
    }

    void finish() {
        System.out.println(asked + " answers, " + wrong + " of them not as due");
        if (wrong != 0 || asked == 0) {
            System.exit(1);
        }
    }

    static long number(String characters) {
        long number = 0;
        for (int i = 0; i < characters.length(); i++) {
            number = number << 8 | characters.charAt(i);
        }
        return number;
    }

    /** Puts a text of any length, up to eight characters a call. */
    static void put(OverflowRows x, String text) {
        for (int from = 0; from < text.length(); from += 8) {
            x.put(number(text.substring(from, Math.min(text.length(), from + 8))));
        }
    }

    static int write(OverflowRows x, String text) {
        put(x, text);
        return x.write();
    }

    static String letters(int many) {
        StringBuilder text = new StringBuilder();
        for (int i = 0; i < many; i++) {
            text.append((char) ('a' + i % 26));
        }
        return text.toString();
    }

    /** A row with that many letters, as a text. */
    static String row(int key, int many) {
        return key + "=" + letters(many);
    }
}
