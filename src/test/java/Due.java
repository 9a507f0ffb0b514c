/** What the tests share: texts put on the tape, and answers held against those that are due. */
final class Due {
    private static int wrong = 0;
    private static int asked = 0;
    private static String sentence = "";

    private Due() {
    }

    static void is(String call, long got, long want) {
        asked++;
        if (got != want) {
            wrong++;
            System.out.println(sentence + call + " answered " + got + ", due is " + want);
        }
    }

    /** What the answers that follow are due by; it is shown with each that is wrong. */
    static void of(String words) {
        sentence = words;
    }

    static void is(String call, boolean got, boolean want) {
        is(call, got ? 1L : 0L, want ? 1L : 0L);
    }

    /** Puts the text alone on the tape. */
    static void tape(StairNews x, String text) {
        x.end(0);
        for (int i = 0; i < text.length(); i += 20) {
            x.feed(four(text, i), four(text, i + 4), four(text, i + 8), four(text, i + 12), four(text, i + 16));
        }
        x.end(text.length());
    }

    static int four(String text, int from) {
        int number = 0;
        for (int i = from; i < from + 4; i++) {
            number = number << 8 | (i < text.length() ? text.charAt(i) & 255 : 0);
        }
        return number;
    }

    static int house(StairNews x, String text) {
        tape(x, text);
        return x.house();
    }

    static int rule(StairNews x, String text) {
        tape(x, text);
        return x.rule();
    }

    static StairNews in(String text) {
        StairNews x = new StairNews();
        int people = house(x, text);
        if (people < 0) {
            is("the house '" + text + "'", people, 0);
        }
        return x;
    }

    static void ring(StairNews x, int bells) {
        for (int i = 0; i < bells; i++) {
            x.bell();
        }
    }

    static int fault(int place, int kind) {
        return -2 - (1 + 8 * place + kind);
    }

    static String times(String text, int n) {
        StringBuilder all = new StringBuilder();
        for (int i = 0; i < n; i++) {
            all.append(text);
        }
        return all.toString();
    }

    static void finish() {
        System.out.println(asked + " answers, " + wrong + " not as due");
        if (wrong != 0 || asked == 0) {
            System.exit(1);
        }
    }
}
