/** Counts the answers that are not as due; a test ends with exit code 1 if there was one. */
final class Due {
    private static int wrong;
    private static int looked;

    private Due() { }

    static void due(String call, long got, long want) {
        looked++;
        if (got != want) {
            wrong++;
            if (wrong <= 50) System.out.println(call + " answered " + got + ", due is " + want);
        }
    }

    static void due(String call, boolean got, boolean want) {
        due(call, got ? 1 : 0, want ? 1 : 0);
    }

    static int wrong() {
        return wrong;
    }

    static void finish() {
        System.out.println(looked + " answers, " + wrong + " not as due");
        if (wrong != 0) System.exit(1);
    }

    /** Feeds a text, padded with blanks that are cut off again. */
    static void tape(StormOffice x, String text) {
        for (int from = 0; from < text.length(); from += 20) {
            int[] words = new int[5];
            for (int i = 0; i < 20; i++) {
                int sign = from + i < text.length() ? text.charAt(from + i) : ' ';
                words[i / 4] |= sign << 8 * (3 - i % 4);
            }
            x.feed(words[0], words[1], words[2], words[3], words[4]);
        }
        x.end(text.length());
    }

    /** rules() of a text on an empty TAPE. */
    static int rules(StormOffice x, String text) {
        tape(x, text);
        return x.rules();
    }
}
