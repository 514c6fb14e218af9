import java.io.IOException;
import java.nio.file.Files;
import java.nio.file.Path;
import java.util.Arrays;

/** Tests sentence by sentence: each is quoted, looked up in the document, and none of it may be left unquoted. */
final class Edges {
    static final int TERMS = 0;
    private static final int PROMISES = 42;
    private static final Path DOCUMENT = Path.of("../shared/DOC.md");

    private final Due due = new Due();
    private final String document;
    private final boolean[] quoted;
    private int sentences;

    Edges() throws IOException {
        document = Files.exists(DOCUMENT) ? plain(Files.readString(DOCUMENT)) : "";
        quoted = new boolean[document.length()];
    }

    private static String plain(String text) {
        return text.replaceAll("```(java|text)?", " ").replaceAll("\\s+", " ");
    }

    private int startOf(int promise) {
        String heading = promise == TERMS ? "# GriefWood" : "## Promise " + promise + ":";
        return document.indexOf(promise > PROMISES ? "## Not promised" : heading);
    }

    /** What follows tests these words of a promise, or of what stands ahead of them all. */
    void says(int promise, String words) {
        due.part((promise == TERMS ? "terms" : String.valueOf(promise)) + ": " + words);
        sentences++;
        if (document.isEmpty()) {
            return;
        }
        int from = startOf(promise);
        int behind = startOf(promise + 1);
        int at = document.indexOf(words, from);
        while (at >= 0 && at < behind && quoted[at] && document.indexOf(words, at + 1) >= 0
            && document.indexOf(words, at + 1) < behind) {
            at = document.indexOf(words, at + 1);
        }
        if (at < 0 || at + words.length() > behind) {
            due.yes("the document says so", false);
            return;
        }
        Arrays.fill(quoted, at, at + words.length(), true);
    }

    void is(String call, long got, long want) {
        due.is(call, got, want);
    }

    void yes(String call, boolean got) {
        due.yes(call, got);
    }

    void no(String call, boolean got) {
        due.no(call, got);
    }

    void told(GriefWood w, int k, String text, int lines) {
        is("text(" + k + ") " + text, Due.tell(w, k, text), lines);
        is("fault(0) of " + text, w.fault(0), 0);
        is("fault(1) of " + text, w.fault(1), -1);
    }

    void faulty(GriefWood w, int k, String text, int what, int place) {
        is("text(" + k + ") " + text, Due.tell(w, k, text), -1);
        is("fault(0) of " + text, w.fault(0), what);
        is("fault(1) of " + text, w.fault(1), place);
    }

    /** The call answers so, and of two objects that are alike the one that was asked is as the other still. */
    void leaves(long answer, String name, int... args) {
        GriefWood one = rich();
        GriefWood other = rich();
        String call = name + Arrays.toString(args);
        is(call, Calls.call(one, name, args), answer);
        yes(call + " changes nothing", Arrays.equals(everything(one), everything(other)));
    }

    void still(String name, int... args) {
        leaves(Calls.call(rich(), name, args), name, args);
    }

    /** An object of which all that can be told has been told, with four to undo, an image, a fault and a TAPE. */
    static GriefWood rich() {
        GriefWood w = new GriefWood();
        w.seeker(50, 2, 3);
        w.seeker(7, 6, 1);
        w.image(true);
        Due.tell(w, 2, "cell 2 2 truffle 5;cell 3 3 oak;cell 6 1 truffle 2;cell 6 2 truffle 9;");
        Due.tell(w, 1, "on 0 seeker 0 lead 2;on 1 seeker 1 console 3;on 3 seeker 0 lead 1;");
        Due.tell(w, 3, "on 1 table 2 pays 30;on 4 table 1 pays 5;");
        Due.tell(w, 0, "stops 900 when loss>9;draws truffle*loss;");
        w.state(12345);
        w.finds(5, 9);
        w.part(4);
        w.part(7);
        int[] wishes = {1023, 3210, 2013, 3201, 2130, 3012, 1032, 3120};
        for (int i = 0; i < 8; i++) {
            w.wish(i / 4, i % 4, wishes[i]);
        }
        for (int v : new int[] {4, 1, 3}) {
            w.height(v);
            w.third(2);
        }
        w.sum(1, 2, 3);
        w.spade(77);
        w.mornings(2);
        w.act(3, 1);
        w.act(1, 0);
        Due.tell(w, 0, "draws 1+;");
        Due.tape(w, "pays 3;");
        return w;
    }

    /** All that can be asked, then what its TAPE, its undoing and its image bring; an object is asked once. */
    static int[] everything(GriefWood w) {
        int[] all = new int[600];
        int n = 0;
        for (int cell = 0; cell < 64; cell++) {
            all[n++] = w.of(cell % 8, cell / 8, 0) + 10 * w.of(cell % 8, cell / 8, 1);
            all[n++] = w.of(cell % 8, cell / 8, 2);
        }
        int seekers = w.look(0);
        for (int i = 0; i < 6 * seekers; i++) {
            all[n++] = w.who(i / 6, i % 6);
        }
        for (int i = 0; i < 4 * w.look(6) && i < 40; i++) {
            all[n++] = w.book(i / 4, i % 4);
        }
        for (int i = 0; i < 6; i++) {
            all[n++] = w.share(i / 2, i % 2) + 1000 * w.pairs(i % 2);
            all[n++] = w.hollow(i % 5);
            all[n++] = w.pounds(i % 3) + 1000 * w.three(i % 2);
            all[n++] = w.cut(1 + i % 3, i % 2) + 2000 * w.spades(i % 2);
        }
        for (int i = 0; i < 6 && seekers > 0; i++) {
            all[n++] = w.of(i, 7 - i, 10 * (1 + i % 3));
        }
        for (int k = 8; k <= 11; k++) {
            all[n++] = w.look(k);
        }
        all[n++] = 10 * w.fault(1) + w.fault(0);
        all[n++] = w.text(0);
        all[n++] = w.of(0, 0, 30) + 1000 * w.fault(1);
        boolean more = true;
        for (int i = 0; i < 7 && more; i++) {
            for (int k = 0; k <= 12; k++) {
                all[n++] = w.look(k);
            }
            more = w.undo();
        }
        all[n++] = w.image(false) ? 1 : 0;
        for (int k = 0; k <= 12; k++) {
            all[n++] = w.look(k);
        }
        return all;
    }

    /** Every word of the document from its terms on stands in a quotation. */
    void close() {
        due.part("the document");
        if (document.isEmpty()) {
            System.out.println("the document is not here: its words were not looked up");
        } else {
            missing(document.indexOf("## Terms") + 8, startOf(1));
            for (int i = 1; i <= PROMISES; i++) {
                // A promise's heading and what Java says of it are not for tests.
                missing(document.indexOf("`: ", startOf(i)) + 3, startOf(i + 1));
            }
        }
        System.out.println(sentences + " sentences");
        due.close();
    }

    private void missing(int from, int behind) {
        StringBuilder left = new StringBuilder();
        for (int i = from; i <= behind; i++) {
            if (i < behind && !quoted[i]) {
                left.append(document.charAt(i));
            } else if (left.length() > 0) {
                String words = left.toString();
                due.no("without a test: " + words, words.matches("(?s).*[0-9A-Za-z].*"));
                left.setLength(0);
            }
        }
    }
}
