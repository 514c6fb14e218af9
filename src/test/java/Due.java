/** Counts answers that are not as due, and helps tests to tell texts. */
final class Due {
    private int wrong;
    private int asked;
    private String part = "";

    void part(String name) {
        part = name;
    }

    void is(String call, long got, long want) {
        asked++;
        if (got != want) {
            wrong++;
            System.out.println(part + ": " + call + " answered " + got + ", due is " + want);
        }
    }

    void yes(String call, boolean got) {
        is(call, got ? 1 : 0, 1);
    }

    void no(String call, boolean got) {
        is(call, got ? 1 : 0, 0);
    }

    void close() {
        System.out.println(asked + " answers, " + wrong + " not as due");
        if (wrong != 0 || asked == 0) {
            System.exit(1);
        }
    }

    /** Feeds a text's bytes, cut to its length by end(). */
    static void tape(GriefWood w, String text) {
        int[] n = new int[5];
        int before = 0;
        for (int i = 0; i < text.length(); i += 20) {
            for (int k = 0; k < 5; k++) {
                n[k] = 0;
                for (int b = 0; b < 4; b++) {
                    int at = i + 4 * k + b;
                    n[k] = n[k] << 8 | (at < text.length() ? text.charAt(at) & 255 : 32);
                }
            }
            before = w.feed(n[0], n[1], n[2], n[3], n[4]);
            if (before < 0) {
                throw new IllegalStateException("the tape is full");
            }
        }
        if (!w.end(text.length())) {
            throw new IllegalStateException("the tape was not empty");
        }
    }

    static int tell(GriefWood w, int k, String text) {
        tape(w, text);
        return w.text(k);
    }
}
