/** The document's sentences on the TAPE, the texts, their faults and what THE LAW tells: the edges that each names. */
final class TextEdges {
    private static final int BIG = Integer.MAX_VALUE;
    private static final int SMALL = Integer.MIN_VALUE;
    private static final int TERMS = Edges.TERMS;
    private static final int LAW = 0;
    private static final int MORNINGS = 1;
    private static final int WOOD = 2;
    private static final int TABLES = 3;

    private final Edges e;

    TextEdges(Edges e) {
        this.e = e;
    }

    void test() {
        emptyTexts();
        lawLines();
        conditions();
        expressions();
        morningLines();
        woodLines();
        tableLines();
        sixteenLines();
        letters();
        digits();
        signsAndBlanks();
        ints();
        orderOfFaults();
        whatCannotStand();
        wrongNumbers();
        seventeenth();
        ninthOpen();
        firstLine();
        untold();
        held();
        whose();
        feed();
        end();
        text();
        fault();
    }

    private static GriefWood wood(int... lossXY) {
        GriefWood w = new GriefWood();
        for (int i = 0; i + 2 < lossXY.length; i += 3) {
            w.seeker(lossXY[i], lossXY[i + 1], lossXY[i + 2]);
        }
        return w;
    }

    /** What a law with this line alone pays for the only SEEKER and the CELL 2, 3. */
    private int pays(String expression) {
        GriefWood w = wood(10, 0, 0);
        e.told(w, LAW, "pays " + expression + ";", 1);
        return w.of(2, 3, 30);
    }

    private int draws(String expression) {
        GriefWood w = wood(10, 0, 0);
        e.told(w, LAW, "draws " + expression + ";", 1);
        return w.of(2, 3, 10);
    }

    private void holds(String condition, boolean due) {
        GriefWood w = wood(10, 0, 0);
        e.told(w, LAW, "pays 1 when " + condition + ";pays 0;", 2);
        e.is(condition, w.of(2, 3, 30), due ? 1 : 0);
    }

    private void refused(int k, String text, int what, int place) {
        e.faulty(wood(10, 0, 0, 20, 1, 1), k, text, what, place);
    }

    private void taken(int k, String text, int lines) {
        e.told(wood(10, 0, 0, 20, 1, 1), k, text, lines);
    }

    private void emptyTexts() {
        e.says(TERMS, "==== 2. TEXTS (empty at first).");
        GriefWood w = wood(10, 0, 0);
        for (int what = 8; what <= 11; what++) {
            e.is("look(" + what + ")", w.look(what), 0);
        }
        e.is("stops by no law", w.of(0, 0, 20), 100);
        e.is("nothing is led", w.mornings(60), 0);
        e.is("nothing is sold", w.look(6), 0);
        for (int k = 0; k <= 3; k++) {
            taken(k, "", 0);
            taken(k, " ", 0);
            taken(k, "\n", 0);
            taken(k, " \n".repeat(200), 0);
        }
        GriefWood again = wood(10, 0, 0);
        e.told(again, LAW, "stops 7;", 1);
        e.told(again, LAW, "", 0);
        e.is("an empty law is none", again.of(0, 0, 20), 100);
        e.told(again, MORNINGS, "on 0 seeker 0 console 1;", 1);
        e.told(again, MORNINGS, "", 0);
        e.told(again, TABLES, "on 0 table 1 pays 1;", 1);
        e.told(again, TABLES, "", 0);
        again.set(2, 0, 5);
        again.mornings(1);
        e.is("nobody is consoled", again.who(0, 3), 0);
        e.is("nothing is sold", again.look(3), 5);
    }

    private void lawLines() {
        e.says(TERMS, "0 THE LAW = {(draws | stops | pays) E [when B] ;}.");
        taken(LAW, "draws 1;stops 2;pays 3;", 3);
        taken(LAW, "draws 1 when 1=1;stops 2 when 1=1;pays 3 when 1=1;", 3);
        for (String word : new String[] {"when", "loss", "and", "not", "1", "(", ";", "on", "cell", "lead"}) {
            refused(LAW, word + " 1;", 1, 0);
        }
        for (String word : new String[] {"draws", "stops", "pays"}) {
            int n = word.length();
            refused(LAW, word, 1, n);
            refused(LAW, word + ";", 1, n);
            refused(LAW, word + " when 1=1;", 1, n + 1);
            refused(LAW, word + " 1", 1, n + 2);
            refused(LAW, word + " 1 when;", 1, n + 7);
            refused(LAW, word + " 1 when 1=1", 1, n + 11);
            refused(LAW, word + " 1 when 1=1 when 1=1;", 1, n + 12);
            refused(LAW, word + " 1;;", 1, n + 3);
            refused(LAW, word + " 1 " + word + " 1;", 1, n + 3);
        }
    }

    private void conditions() {
        e.says(TERMS, "B = A {or A}.");
        holds("1=2 or 1=1", true);
        holds("1=1 or 1=2", true);
        holds("1=2 or 1=2", false);
        holds("1=2 or 1=2 or 1=1", true);
        refused(LAW, "pays 1 when 1=1 or;", 1, 18);
        refused(LAW, "pays 1 when or 1=1;", 1, 12);
        refused(LAW, "pays 1 when 1=1 or or 1=1;", 1, 19);
        holds("1=2or ".repeat(59) + "1=1", true);
        holds("1=2or ".repeat(59) + "1=2", false);
        e.says(TERMS, "A = C {and C}.");
        holds("1=1and ".repeat(50) + "1=1", true);
        holds("1=1and ".repeat(50) + "1=2", false);
        holds("1=2and ".repeat(25) + "1=1or ".repeat(25) + "1=2", true);
        holds("1=1 and 1=1", true);
        holds("1=1 and 1=2", false);
        holds("1=2 and 1=1", false);
        holds("1=1 or 1=1 and 1=2", true);
        holds("1=2 and 1=2 or 1=1", true);
        refused(LAW, "pays 1 when 1=1 and;", 1, 19);
        refused(LAW, "pays 1 when and 1=1;", 1, 12);
        refused(LAW, "pays 1 when 1=1 and or 1=1;", 1, 20);
        e.says(TERMS, "C = E (< | = | >) E | not C | ( B ).");
        for (int a = 0; a <= 2; a++) {
            holds(a + "<1", a < 1);
            holds(a + "=1", a == 1);
            holds(a + ">1", a > 1);
        }
        String[] so = {"1<2", "1=1", "2>1"};
        String[] not = {"2<1", "1=2", "1>2"};
        for (int i = 0; i < 9; i++) {
            holds(so[i / 3] + " and " + so[i % 3], true);
            holds(so[i / 3] + " and " + not[i % 3], false);
            holds(not[i / 3] + " and " + so[i % 3], false);
            holds(not[i / 3] + " or " + so[i % 3], true);
            holds(not[i / 3] + " or " + not[i % 3], false);
            holds("not " + so[i / 3] + " or not " + so[i % 3], false);
            holds("not " + not[i / 3] + " and not " + not[i % 3], true);
        }
        holds("not 1=1", false);
        holds("not not 1=1", true);
        holds("not 1=1 or 1=1", true);
        holds("not 1=2 and 1=2", false);
        holds("not (1=2 and 1=1)", true);
        holds("(1=1 or 1=1) and 1=2", false);
        holds("1=2 and (1=2 or 1=1) or not (1=1 and 1=2)", true);
        holds("((1=1))", true);
        refused(LAW, "pays 1 when 1;", 1, 13);
        refused(LAW, "pays 1 when 1=;", 1, 14);
        refused(LAW, "pays 1 when =1;", 1, 12);
        refused(LAW, "pays 1 when 1<=1;", 1, 14);
        refused(LAW, "pays 1 when 1=1=1;", 1, 15);
        refused(LAW, "pays 1 when not;", 1, 15);
        refused(LAW, "pays 1 when ();", 1, 13);
        refused(LAW, "pays 1 when (1=1;", 1, 16);
        refused(LAW, "pays 1 when 1=1);", 1, 15);
        refused(LAW, "pays 1 when (1)=1;", 1, 14);
        refused(LAW, "pays 1 when (1=1)=1;", 1, 17);
        refused(LAW, "pays 1 when (1=1)(1=1);", 1, 17);
        refused(LAW, "pays 1 when 1=1 not 1=1;", 1, 16);
    }

    private void expressions() {
        e.says(TERMS, "E = T {(+ | -) T}.");
        e.is("9-3-2", pays("9-3-2"), 4);
        e.is("9-3+2", pays("9-3+2"), 8);
        e.is("2+3*4-5", pays("2+3*4-5"), 9);
        e.is("20-2*3*2-1", pays("20-2*3*2-1"), 7);
        refused(LAW, "pays +1;", 1, 5);
        refused(LAW, "pays -1;", 1, 5);
        refused(LAW, "pays 1+;", 1, 7);
        refused(LAW, "pays 1--1;", 1, 7);
        refused(LAW, "pays 1+-1;", 1, 7);
        refused(LAW, "pays 1 1;", 1, 7);
        e.says(TERMS, "T = U {* U | / NUMBER}.");
        e.is("7*3/2", pays("7*3/2"), 10);
        e.is("7/2*3", pays("7/2*3"), 9);
        e.is("100/7/3", pays("100/7/3"), 4);
        e.is("1/1", pays("5/1"), 5);
        e.is("9999/9999", pays("9999/9999"), 1);
        refused(LAW, "pays *1;", 1, 5);
        refused(LAW, "pays 1*;", 1, 7);
        refused(LAW, "pays 1/;", 1, 7);
        refused(LAW, "pays 1/x;", 1, 7);
        refused(LAW, "pays 1*/2;", 1, 7);
        refused(LAW, "pays (1);", 1, 5);
        refused(LAW, "pays 1*(1);", 1, 7);
        refused(LAW, "pays 1 when 1*(1)=1;", 1, 14);
        e.says(TERMS, "U = NUMBER | loss | solace | oak | truffle | dug | x | y | found | basket | morning.");
        String[] words = {"0", "9999", "loss", "solace", "oak", "truffle", "dug", "x", "y", "found", "basket",
            "morning"};
        for (String word : words) {
            taken(LAW, "draws " + word + ";stops 2*" + word + ";pays 1 when " + word + "<" + word + ";", 3);
        }
        for (String word : new String[] {"draws", "stops", "pays", "when", "or", "and", "not", "seeker", "cell",
            "coins"}) {
            refused(LAW, "pays " + word + ";", 1, 5);
        }
    }

    private void morningLines() {
        e.says(TERMS, "1 MORNINGS = {on MORNING seeker SEEKER (lead N | console N | mourn N | stand X Y) ;}");
        taken(MORNINGS, "on 1 seeker 0 lead 1;on 1 seeker 1 console 1;on 1 seeker 0 mourn 1;on 1 seeker 0 stand 1"
            + " 1;", 4);
        String[] bad = {"seeker", "on seeker", "on 1 0", "on 1 seeker lead", "on 1 seeker 0 1", "on 1 seeker 0 lead"
            + " lead",
            "on 1 seeker 0 lead 1 1", "on 1 seeker 0 console;", "on 1 seeker 0 mourn;", "on 1 seeker 0 stand;",
            "on 1 seeker 0 stand 1;", "on 1 seeker 0 stand 1 1 1", "on 1 seeker 0 lead 1 on", "on 1 seeker 0 oak;",
            "on 1 seeker 0 on;", "on 1 table"};
        int[] places = {0, 3, 5, 12, 14, 19, 21, 21, 19, 19, 21, 24, 21, 14, 14, 5};
        for (int i = 0; i < bad.length; i++) {
            refused(MORNINGS, bad[i], 1, places[i]);
        }
        e.says(TERMS, "(MORNING 0 .. 999;");
        taken(MORNINGS, "on 0 seeker 0 lead 1;on 999 seeker 0 lead 1;", 2);
        refused(MORNINGS, "on 1000 seeker 0 lead 1;", 2, 3);
        refused(MORNINGS, "on 9999 seeker 0 lead 1;", 2, 3);
        taken(TABLES, "on 0 table 1 pays 1;on 999 table 1 pays 1;", 2);
        refused(TABLES, "on 1000 table 1 pays 1;", 2, 3);
        GriefWood last = wood(10, 0, 0);
        e.told(last, MORNINGS, "on 999 seeker 0 console 4;", 1);
        e.told(last, TABLES, "on 999 table 1 pays 4;", 1);
        last.set(2, 0, 1);
        for (int i = 0; i < 16; i++) {
            last.mornings(60);
        }
        last.mornings(39);
        e.is("not ahead of it", last.who(0, 3) + last.look(4), 0);
        last.mornings(1);
        e.is("on 999", last.who(0, 3), 4);
        e.is("on 999", last.look(4), 4);
        e.says(TERMS, "lead 1 .. 20 steps,");
        taken(MORNINGS, "on 0 seeker 0 lead 1;on 0 seeker 0 lead 20;", 2);
        refused(MORNINGS, "on 0 seeker 0 lead 0;", 2, 19);
        refused(MORNINGS, "on 0 seeker 0 lead 21;", 2, 19);
        e.says(TERMS, "console, mourn 1 .. 9,");
        taken(MORNINGS, "on 0 seeker 0 console 1;on 0 seeker 0 console 9;on 0 seeker 0 mourn 1;on 0 seeker 0 mourn"
            + " 9;", 4);
        refused(MORNINGS, "on 0 seeker 0 console 0;", 2, 22);
        refused(MORNINGS, "on 0 seeker 0 console 10;", 2, 22);
        refused(MORNINGS, "on 0 seeker 0 mourn 0;", 2, 20);
        refused(MORNINGS, "on 0 seeker 0 mourn 10;", 2, 20);
        e.says(TERMS, "stand 0 .. 7 each.)");
        taken(MORNINGS, "on 0 seeker 0 stand 0 7;on 0 seeker 0 stand 7 0;", 2);
        refused(MORNINGS, "on 0 seeker 0 stand 8 0;", 2, 20);
        refused(MORNINGS, "on 0 seeker 0 stand 0 8;", 2, 22);
        refused(MORNINGS, "on 0 seeker 0 stand 8 8;", 2, 20);
    }

    private void woodLines() {
        e.says(TERMS, "2 WOOD = {cell X Y (oak | bare | truffle N) ;}");
        taken(WOOD, "cell 0 0 oak;cell 0 0 bare;cell 0 0 truffle 1;", 3);
        taken(WOOD, "cell 7 7 oak;cell 0 7 oak;cell 7 0 oak;", 3);
        refused(WOOD, "cell 8 0 oak;", 2, 5);
        refused(WOOD, "cell 0 8 oak;", 2, 7);
        String[] bad = {"oak", "cell", "cell oak", "cell 0 oak", "cell 0 0;", "cell 0 0 0", "cell 0 0 oak 1",
            "cell 0 0 oak oak", "cell 0 0 bare", "cell 0 0 truffle;", "cell 0 0 truffle oak", "cell 0 0 truffle 1 oak",
            "cell 0 0 lead", "on 0"};
        int[] places = {0, 4, 5, 7, 8, 9, 13, 13, 13, 16, 17, 19, 9, 0};
        for (int i = 0; i < bad.length; i++) {
            refused(WOOD, bad[i], 1, places[i]);
        }
        e.says(TERMS, "(N 1 .. 9, with an oak or not;");
        GriefWood w = wood();
        e.told(w, WOOD, "cell 1 2 oak;cell 1 2 truffle 9;cell 3 4 truffle 1;", 3);
        e.is("with an oak", w.of(1, 2, 0), 1);
        e.is("9", w.of(1, 2, 1), 9);
        e.is("without one", w.of(3, 4, 0), 0);
        e.is("1", w.of(3, 4, 1), 1);
        e.is("x, then y", w.of(2, 1, 1) + w.of(4, 3, 1), 0);
        refused(WOOD, "cell 1 1 truffle 0;", 2, 17);
        refused(WOOD, "cell 1 1 truffle 10;", 2, 17);
        e.says(TERMS, "told, line by line the CELL is so;");
        w = wood();
        e.told(w, WOOD, "cell 1 1 oak;cell 1 1 bare;cell 2 2 bare;cell 2 2 oak;cell 3 3 truffle 9;cell 3 3 truffle"
            + " 2;", 6);
        e.is("oak, then bare", w.of(1, 1, 0), 0);
        e.is("bare, then oak", w.of(2, 2, 0), 1);
        e.is("9, then 2", w.of(3, 3, 1), 2);
        e.says(TERMS, "all else is as it was.)");
        w = wood(10, 5, 5);
        e.told(w, WOOD, "cell 5 5 oak;cell 5 5 truffle 3;cell 6 6 oak;cell 6 6 truffle 4;cell 1 1 oak;", 5);
        w.act(3, 0);
        e.told(w, WOOD, "cell 5 5 truffle 8;cell 6 6 oak;", 2);
        e.is("what was dug", w.of(5, 5, 2), 1);
        e.is("the oak with a truffle", w.of(5, 5, 0), 1);
        e.is("the truffle with an oak", w.of(6, 6, 1), 4);
        e.is("another cell", w.of(1, 1, 0), 1);
        e.told(w, WOOD, "cell 6 6 bare;", 1);
        e.is("the truffle of a bare one", w.of(6, 6, 1), 4);
        e.told(w, WOOD, "", 0);
        e.is("an empty wood fells none", w.look(1), 2);
        e.is("nor takes any", w.look(2), 2);
        e.is("coins", w.look(4), 3);
    }

    private void tableLines() {
        e.says(TERMS, "3 TABLES = {on MORNING table N pays N ;}");
        taken(TABLES, "on 0 table 1 pays 1;on 0 table 1 pays 1;", 2);
        String[] bad = {"table", "on", "on table", "on 0 1", "on 0 table pays", "on 0 table 1 1", "on 0 table 1 pays;",
            "on 0 table 1 pays 1 1", "on 0 table 1 pays 1", "on 0 seeker", "on 0 table 1 table", "cell 0"};
        int[] places = {0, 2, 3, 5, 11, 13, 17, 20, 19, 5, 13, 0};
        for (int i = 0; i < bad.length; i++) {
            refused(TABLES, bad[i], 1, places[i]);
        }
        e.says(TERMS, "(it takes that weight 1 .. 99 for 1 .. 999 COINS.)");
        GriefWood w = wood();
        e.told(w, TABLES, "on 0 table 1 pays 999;on 0 table 99 pays 1;", 2);
        w.set(2, 0, 100);
        w.mornings(1);
        e.is("basket", w.look(3), 0);
        e.is("coins", w.look(4), 1000);
        refused(TABLES, "on 0 table 0 pays 1;", 2, 11);
        refused(TABLES, "on 0 table 100 pays 1;", 2, 11);
        refused(TABLES, "on 0 table 1 pays 0;", 2, 18);
        refused(TABLES, "on 0 table 1 pays 1000;", 2, 18);
    }

    private void sixteenLines() {
        e.says(TERMS, "16 lines of each at most.");
        String[] lines = {"pays 1;", "on 9 seeker 0 lead 1;", "cell 1 1 oak;", "on 9 table 1 pays 1;"};
        for (int k = 0; k <= 3; k++) {
            GriefWood w = wood(10, 0, 0);
            e.told(w, k, lines[k].repeat(15), 15);
            e.told(w, k, lines[k].repeat(16), 16);
            e.is("look", w.look(8 + k), 16);
            e.faulty(w, k, lines[k].repeat(17), 3, 16 * lines[k].length());
            e.is("look", w.look(8 + k), 16);
        }
        GriefWood all = wood(10, 0, 0);
        e.told(all, MORNINGS, "on 0 seeker 0 lead 1;".repeat(16), 16);
        e.told(all, TABLES, "on 0 table 1 pays 5;".repeat(16), 16);
        e.told(all, LAW, "stops 0 when x>9;".repeat(15) + "stops 1000;", 16);
        all.set(2, 0, 100);
        all.mornings(1);
        e.is("each is led", all.who(0, 5), 16);
        e.is("each is sold", all.look(4), 80);
    }

    private void letters() {
        e.says(TERMS, "TOKENS: letters (a .. z, A .. Z) as many as stand together are KEYWORDS (those told here for"
            + " that text)"
            + " or none;");
        // A letter more belongs to the word, so the word is none and its fault stands at its first letter.
        for (char c : new char[] {'a', 'z', 'A', 'Z', 'm', 'M'}) {
            refused(LAW, "pays" + c + " 1;", 1, 0);
            refused(LAW, c + "pays 1;", 1, 0);
            refused(LAW, "pays " + c + "x;", 1, 5);
        }
        // What stands around the letters ends the word, and can't stand behind it.
        for (char c : new char[] {'@', '[', '`', '{'}) {
            refused(LAW, "pays" + c + " 1;", 1, 4);
        }
        refused(LAW, "PAYS 1;", 1, 0);
        refused(LAW, "Pays 1;", 1, 0);
        refused(LAW, "pay 1;", 1, 0);
        refused(LAW, "pays X;", 1, 5);
        refused(LAW, "pa ys 1;", 1, 0);
        refused(LAW, "pays 1 When 1=1;", 1, 7);
        refused(LAW, "paysx;", 1, 0);
        taken(LAW, "pays1when1=1or2=2and3=3;", 1);
        taken(LAW, "pays x when not(x=y)or(not y=x);", 1);
        taken(MORNINGS, "on1seeker1lead1;", 1);
        refused(MORNINGS, "on1seeker1lead1pays", 1, 15);
        refused(WOOD, "cell 1 1 when", 1, 9);
        refused(TABLES, "on 1 table 1 lead", 1, 13);
        refused(LAW, "table", 1, 0);
    }

    private void digits() {
        e.says(TERMS, "digits as many as stand together NUMBERS of 1 to 4 digits or none;");
        e.is("1 digit", draws("7"), 7);
        e.is("2 digits", draws("12"), 12);
        e.is("3 digits", draws("123"), 123);
        e.is("4 digits", draws("9999"), 9999);
        e.is("0s ahead", draws("0007"), 7);
        e.is("0", draws("0000"), 0);
        refused(LAW, "draws 12345;", 1, 6);
        refused(LAW, "draws 00001;", 1, 6);
        refused(LAW, "draws 99999999999999999999;", 1, 6);
        refused(LAW, "draws 1 2345;", 1, 8);
        refused(LAW, "draws 12x;", 1, 8);
        refused(LAW, "draws 1.2;", 1, 7);
        refused(LAW, "draws 1:2;", 1, 7);
        refused(MORNINGS, "on 00000 seeker", 1, 3);
        taken(MORNINGS, "on 0999 seeker 0001 stand 0007 0000;", 1);
        refused(WOOD, "cell 00001 1 oak;", 1, 5);
        refused(WOOD, "cell 11oak;", 2, 5);
        refused(TABLES, "on 1 table 00001", 1, 11);
    }

    private void signsAndBlanks() {
        e.says(TERMS, "; + - * / ( ) < = > .");
        taken(LAW, "pays 1+2-3*4/5 when (1<2) and 1=1 and 2>1;", 1);
        String known = ";+-*/()<=>";
        for (int c = 0; c < 256; c++) {
            boolean letter = c >= 'a' && c <= 'z' || c >= 'A' && c <= 'Z';
            boolean digit = c >= '0' && c <= '9';
            if (!letter && !digit && c != 32 && c != 10 && known.indexOf(c) < 0) {
                refused(LAW, (char) c + "pays 1;", 1, 0);
                refused(LAW, "pays 1" + (char) c + ";", 1, 6);
                refused(WOOD, "cell 0 0" + (char) c + "oak;", 1, 8);
            }
        }
        e.says(TERMS, "Blanks (32, 10) between.");
        taken(LAW, "\n\n pays\n1\nwhen \n 1\n=\n1\n;\n\n", 1);
        taken(MORNINGS, " on\n1 seeker\n1\nlead\n1\n;\n", 1);
        refused(LAW, "pays\t1;", 1, 4);
        refused(LAW, "pays\r1;", 1, 4);
        refused(LAW, "pays 1;\r\n", 1, 7);
        refused(LAW, "pays 1\0;", 1, 6);
        refused(LAW, "pays 1 when 1 = 1 o r 1=1;", 1, 18);
        e.is("two blanks in a row", pays("  3 \n\n + \n4 "), 7);
    }

    private void ints() {
        e.says(TERMS, "Ints, which wrap;");
        // 9999 * 9999 * 22 = 2199560022, which is -2095407274 as an int.
        holds("9999*9999*22<0", true);
        holds("9999*9999*21<0", false);
        holds("9999*9999*22+9999*9999*21=9999*9999*43", true);
        // 2 times 1073741824 wraps to the least int, and that less 1 to the greatest.
        holds("1024*1024*1024*2<0", true);
        holds("1024*1024*1024*2-1>0", true);
        holds("1024*1024*1024*4=0", true);
        holds("1024*1024*1024+1024*1024*1024<0", true);
        e.says(TERMS, "/ goes towards 0.");
        e.is("-2095407274 by 1000 by 1000", draws("9999*9999*22/1000/1000"), -2095);
        e.is("7 by 2", draws("7/2"), 3);
        e.is("0 less 7 by 2", draws("0-7/2"), -3);
        e.is("0 by 9999", draws("0/9999"), 0);
        holds("1024*1024*1024*2/1=1024*1024*1024*2", true);
    }

    private void orderOfFaults() {
        e.says(TERMS, "FAULTS, the first by its place,");
        refused(LAW, "pays 1/0;pays 1 1;", 2, 7);
        refused(LAW, "pays 1 1;pays 1/0;", 1, 7);
        refused(LAW, "pays 1/0 when ((((((((((", 2, 7);
        refused(LAW, "pays 1 when not not not not not not not not not 1=1/0;", 3, 44);
        refused(LAW, "pays 1 when 1=1/0 and not not not not not not not not not 1=1;", 2, 16);
        refused(MORNINGS, "on 1000 seeker 9 lead 0;", 2, 3);
        refused(MORNINGS, "on 999 seeker 9 lead 0 lead;", 2, 14);
        refused(MORNINGS, "on 999 seeker 1 lead 0 lead;", 2, 21);
        refused(WOOD, "cell 8 8 tree", 2, 5);
        refused(WOOD, "cell 7 oak 8", 1, 7);
        refused(TABLES, "on 0 table 100 pays 1000;", 2, 11);
        refused(TABLES, "on 0 table 99 pays 1000 1;", 2, 19);
        e.says(TERMS, "at one place the least:");
        // What can't stand there is the least, even where the line, the ( or the NUMBER would be refused, too.
        refused(LAW, "pays 1;".repeat(16) + "when", 1, 112);
        refused(LAW, "pays 1;".repeat(16) + ";", 1, 112);
        refused(WOOD, "cell 1 1 oak;".repeat(16) + "on", 1, 208);
        refused(MORNINGS, "on 1 seeker 0 lead 1;".repeat(16) + "cell", 1, 336);
        refused(TABLES, "on 1 table 1 pays 1;".repeat(16) + "1", 1, 320);
        refused(LAW, "pays 1 when ((((((((1=1(", 1, 23);
        refused(LAW, "pays 1 when ((((((((1=1 not", 1, 24);
        refused(LAW, "pays 1 when ((((((((1=(", 1, 22);
        refused(LAW, "pays 1/00000;", 1, 7);
        refused(MORNINGS, "on 10000", 1, 3);
        refused(MORNINGS, "on 1 seeker 00009", 1, 12);
    }

    private void whatCannotStand() {
        e.says(TERMS, "1 what can't stand there (the end: the text's length).");
        String[] texts = {"pays 1 when (1=1)", "on 1 seeker 0 stand 1 1", "cell 0 0 truffle 1", "on 1 table 1 pays 1"};
        for (int k = 0; k <= 3; k++) {
            for (int n = 1; n <= texts[k].length(); n++) {
                // Cut within a word, that word is none, or it is one that can't stand there.
                int place = placeOfEnd(texts[k].substring(0, n));
                refused(k, texts[k].substring(0, n), 1, place);
            }
            refused(k, texts[k] + " \n ", 1, texts[k].length() + 3);
            String long400 = texts[k] + " ".repeat(400 - texts[k].length());
            refused(k, long400, 1, 400);
            refused(k, long400.substring(1) + ";", 1, 0);
            taken(k, long400.substring(0, 399) + ";", 1);
        }
    }

    /** Where the fault of a text is that was cut: at its end, or at a word that was cut. */
    private static int placeOfEnd(String text) {
        String[] words = {"pays", "when", "on", "seeker", "stand", "cell", "truffle", "table"};
        int from = text.length();
        while (from > 0 && Character.isLetter(text.charAt(from - 1))) {
            from--;
        }
        String last = text.substring(from);
        return last.isEmpty() || java.util.List.of(words).contains(last) ? text.length() : from;
    }

    private void wrongNumbers() {
        e.says(TERMS, "2 (at the NUMBER) a part by 0;");
        refused(LAW, "pays 1/0;", 2, 7);
        refused(LAW, "pays 1/ \n00;", 2, 9);
        refused(LAW, "pays 1/0000;", 2, 7);
        refused(LAW, "pays 1 when 1=2*3/0;", 2, 18);
        refused(LAW, "pays 8/2/0;", 2, 9);
        taken(LAW, "pays 1/0001;pays 0/9999;pays 0*0;", 3);
        // A word where a NUMBER is due is what can't stand there, whichever it is.
        for (String word : new String[] {"loss", "draws", "not", "morning"}) {
            refused(LAW, "pays 1/" + word + ";", 1, 7);
        }
        for (String word : new String[] {"on", "seeker", "pays", "cell"}) {
            refused(MORNINGS, "on " + word, 1, 3);
            refused(MORNINGS, "on 1 seeker " + word, 1, 12);
            refused(WOOD, "cell 1 " + word, 1, 7);
            refused(TABLES, "on 1 table " + word, 1, 11);
        }
        e.says(TERMS, "one beyond its bounds;");
        refused(MORNINGS, "on\n1000", 2, 3);
        refused(MORNINGS, "on 1 seeker 0 lead 0021;", 2, 19);
        refused(MORNINGS, "on 1 seeker 0 lead 0000;", 2, 19);
        refused(MORNINGS, "on 1 seeker 0 console 9999;", 2, 22);
        refused(MORNINGS, "on 1 seeker 0 stand 7 9999;", 2, 22);
        refused(WOOD, "cell 9999 0 oak;", 2, 5);
        refused(WOOD, "cell 0 9999 oak;", 2, 7);
        refused(WOOD, "cell 0 0 truffle 9999;", 2, 17);
        refused(TABLES, "on 9999 table 1 pays 1;", 2, 3);
        refused(TABLES, "on 1 table 9999 pays 1;", 2, 11);
        refused(TABLES, "on 1 table 1 pays 9999;", 2, 18);
        e.says(TERMS, "a SEEKER that there is not.");
        GriefWood w = wood();
        e.faulty(w, MORNINGS, "on 1 seeker 0 lead 1;", 2, 12);
        for (int i = 0; i < 10; i++) {
            w.seeker(9, 0, 0);
            e.told(w, MORNINGS, "on 1 seeker " + i + " lead 1;", 1);
            e.faulty(w, MORNINGS, "on 1 seeker " + (i + 1) + " lead 1;", 2, 12);
        }
        e.faulty(w, MORNINGS, "on 1 seeker 9999 lead 1;", 2, 12);
        e.is("the one told stays", w.look(9), 1);
    }

    private void seventeenth() {
        e.says(TERMS, "3 (at its KEYWORD) the 17th line of a text;");
        refused(LAW, "pays 1;".repeat(16) + "draws", 3, 112);
        refused(LAW, "pays 1;".repeat(16) + " \n stops 1/0;", 3, 115);
        refused(LAW, "pays 1;".repeat(17) + "pays", 3, 112);
        refused(MORNINGS, "on 1 seeker 0 lead 1;".repeat(16) + " on", 3, 337);
        refused(WOOD, "cell 1 1 oak;".repeat(16) + "\ncell", 3, 209);
        refused(TABLES, "on 1 table 1 pays 1;".repeat(16) + "  on 1000", 3, 322);
        refused(LAW, "pays 1;".repeat(15) + "pays 1/0;pays 1;", 2, 112);
        taken(LAW, "pays 1;".repeat(16) + " \n ", 16);
    }

    private void ninthOpen() {
        e.says(TERMS, "(at it) the 9th ( or not that is open.");
        for (int nots = 0; nots <= 9; nots++) {
            String nine = "not ".repeat(nots) + "(".repeat(9 - nots) + "1=1" + ")".repeat(9 - nots) + ";";
            refused(LAW, "pays 1 when " + nine, 3, 12 + (nots == 9 ? 32 : 4 * nots + 8 - nots));
            if (nots < 9) {
                String eight = "not ".repeat(nots) + "(".repeat(8 - nots) + "1=1" + ")".repeat(8 - nots);
                holds(eight, nots % 2 == 0);
            }
        }
        refused(LAW, "pays 1 when (((((((( not 1=1", 3, 21);
        refused(LAW, "pays 1 when ((((((((1=1 and (1=1", 3, 28);
        refused(LAW, "pays 1 when ((((((((1=1 or not 1=1", 3, 27);
        // One that is closed is not open: a ( by its ), a not behind what it denies.
        holds("((((((((1=1)))))))) and ((((((((1=1))))))))", true);
        holds("not not not not not not not not 1=1 and not not not not not not not not 1=1", true);
        holds("(((((((not 1=2 and not 1=2 and not 1=2)))))))", true);
        holds("((((((not (1=2)))))))", true);
        holds("not(not(not(not(1=1)and(1=1))))or not(not(not(not(1=1))))", true);
        taken(LAW, "pays 1 when ((((((((1=1))))))));pays 1 when ((((((((1=1))))))));", 2);
        refused(LAW, "pays 1 when (((((((((", 3, 20);
        refused(LAW, "pays 1 when ((((((((", 1, 20);
    }

    private void firstLine() {
        e.says(TERMS, "What THE LAW tells of a SEEKER and a CELL for a word: E of the first line with that word"
            + " whose B is so,"
            + " or that has none");
        GriefWood w = wood(10, 0, 0);
        e.told(w, LAW, "stops 9;pays 1 when x=0;pays 2 when x<2;pays 3;pays 4;pays 5 when x=7;", 6);
        int[] due = {1, 2, 3, 3, 3, 3, 3, 3};
        for (int x = 0; x < 8; x++) {
            e.is("pays of " + x, w.of(x, 0, 30), due[x]);
        }
        e.told(w, LAW, "pays 3;pays 1 when 1=1;", 2);
        e.is("the first, which has none", w.of(0, 0, 30), 3);
    }

    private void untold() {
        e.says(TERMS, "(none: draws: truffle times loss less 10 times solace, with 5 more for an oak; stops: 10"
            + " times loss less"
            + " 100 times solace, pays: truffle),");
        int[][] due = {{99, 0, 891, 896, 990}, {0, 0, 0, 5, 0}, {0, 9, -90, -85, 0}, {10, 1, 80, 85, 0}, {11, 1, 89,
            94, 10},
            {99, 9, 801, 806, 90}};
        for (int[] d : due) {
            for (String law : new String[] {"", "draws 1 when 1=2;stops 1 when 1=2;pays 1 when 1=2;"}) {
                GriefWood w = wood(d[0], 0, 0);
                w.set(1, 0, d[1]);
                Due.tell(w, LAW, law);
                Due.tell(w, WOOD, "cell 1 1 truffle 9;cell 2 2 truffle 9;cell 2 2 oak;");
                e.is("draws", w.of(1, 1, 10), d[2]);
                e.is("draws of an oak", w.of(2, 2, 10), d[3]);
                e.is("draws of nothing", w.of(3, 3, 10), -10 * d[1]);
                e.is("stops", w.of(1, 1, 20), d[4]);
                e.is("pays", w.of(1, 1, 30), 9);
                e.is("pays for nothing", w.of(3, 3, 30), 0);
            }
        }
        GriefWood other = wood(10, 0, 0);
        e.told(other, LAW, "draws 7;", 1);
        e.is("another word's line is none", other.of(0, 0, 20), 100);
    }

    private void held() {
        e.says(TERMS, "draws (asked of the CELL to which he would go) held to -9999 .. 9999,");
        e.is("9999", draws("9999"), 9999);
        e.is("10000", draws("9999+1"), 9999);
        e.is("-9999", draws("0-9999"), -9999);
        e.is("-10000", draws("0-9999-1"), -9999);
        e.is("the greatest int", draws("1024*1024*1024*2-1"), 9999);
        e.is("the least int", draws("1024*1024*1024*2"), -9999);
        GriefWood w = wood(10, 3, 3);
        e.told(w, LAW, "draws 9 when x=3 and y=3;draws 5 when x=4;draws 4;", 3);
        e.is("not asked of the one where he is", w.who(0, 6), 1);
        // 9999 and more are alike once they are held, so the first side is gone to.
        e.told(w, LAW, "draws 9999 when y=2;draws 9999*2;", 2);
        e.is("held ahead of the choice", w.who(0, 6), 0);
        e.told(w, LAW, "draws 0-9999 when y=2;draws 0-9999*2;", 2);
        e.is("held ahead of the choice", w.who(0, 6), 0);
        e.told(w, LAW, "draws 0-9999*2 when y=2;draws 0-9999;", 2);
        e.is("held ahead of the choice", w.who(0, 6), 0);
        e.says(TERMS, "stops to 0 .. 1000,");
        int[][] due = {{0, 0}, {1, 1}, {999, 999}, {1000, 1000}, {1001, 1000}, {9999, 1000}};
        for (int[] d : due) {
            GriefWood s = wood(10, 0, 0);
            e.told(s, LAW, "stops " + d[0] + ";", 1);
            e.is("stops " + d[0], s.of(0, 0, 20), d[1]);
            e.told(s, LAW, "stops 0-" + d[0] + ";", 1);
            e.is("stops -" + d[0], s.of(0, 0, 20), 0);
        }
        e.says(TERMS, "pays to 0 .. 999:");
        e.is("999", pays("999"), 999);
        e.is("1000", pays("1000"), 999);
        e.is("0", pays("0"), 0);
        e.is("-1", pays("0-1"), 0);
        GriefWood paid = wood(10, 0, 0);
        e.told(paid, LAW, "pays 9999;", 1);
        e.told(paid, WOOD, "cell 0 0 truffle 1;", 1);
        paid.act(3, 0);
        e.is("what is paid", paid.look(4), 999);
    }

    private void whose() {
        e.says(TERMS, "loss, solace, found: the SEEKER's;");
        GriefWood w = wood(41, 5, 6, 7, 0, 0);
        w.set(1, 0, 6);
        e.told(w, WOOD, "cell 5 6 truffle 4;cell 2 3 oak;cell 2 3 truffle 8;", 3);
        w.act(3, 0);
        String[] words = {"loss", "solace", "found"};
        int[] his = {41, 6, 4};
        int[] other = {7, 0, 0};
        for (int i = 0; i < 3; i++) {
            e.told(w, LAW, "pays " + words[i] + ";", 1);
            e.is(words[i], w.of(2, 3, 30), his[i]);
            e.is(words[i], w.of(2, 3, 31), other[i]);
        }
        e.says(TERMS, "oak, truffle, dug, x, y: the CELL's;");
        words = new String[] {"oak", "truffle", "dug", "x", "y"};
        int[] there = {1, 8, 0, 2, 3};
        int[] here = {0, 0, 1, 5, 6};
        for (int i = 0; i < 5; i++) {
            e.told(w, LAW, "pays " + words[i] + ";", 1);
            e.is(words[i], w.of(2, 3, 30), there[i]);
            e.is(words[i], w.of(5, 6, 30), here[i]);
            e.is(words[i], w.of(2, 3, 31), there[i]);
        }
        e.says(TERMS, "basket: BASKET held to 0 .. 9999; morning.");
        GriefWood b = wood(10, 0, 0);
        e.told(b, LAW, "draws basket;stops morning;", 2);
        int[][] due = {{0, 0}, {9998, 9998}, {9999, 9999}};
        for (int[] d : due) {
            b.set(2, 0, d[0]);
            e.is("basket " + d[0], b.of(0, 0, 10), d[1]);
        }
        e.told(b, WOOD, "cell 0 0 truffle 9;", 1);
        b.act(3, 0);
        e.is("10008 is in it", b.look(3), 10008);
        e.told(b, LAW, "draws basket-9000;stops morning;", 2);
        e.is("but 9999 is told", b.of(0, 0, 10), 999);
        b.mornings(60);
        e.is("morning", b.of(0, 0, 20), 60);
    }

    private void feed() {
        e.says(7, "Twenty bytes come behind the TAPE, of each number the highest first: how many it has.");
        GriefWood w = wood(10, 0, 0);
        // "draws 1+2+3+4+5+6-9;" and, behind it, "stops 1 ; pays 0002;".
        e.is("feed", w.feed(0x64726177, 0x7320312b, 0x322b332b, 0x342b352b, 0x362d393b), 20);
        e.is("feed", w.feed(0x73746f70, 0x73203120, 0x3b207061, 0x79732030, 0x3030323b), 40);
        e.is("text", w.text(LAW), 3);
        e.is("draws", w.of(0, 0, 10), 12);
        e.is("stops", w.of(0, 0, 20), 1);
        e.is("pays", w.of(0, 0, 30), 2);
        // A byte above 127 is not a sign that stands for another.
        e.is("feed", w.feed(-1, -1, -1, -1, -1), 20);
        e.is("text", w.text(LAW), -1);
        e.is("fault(1)", w.fault(1), 0);
        e.is("feed", w.feed(0x20202020, 0x202020e1, 0x20202020, 0x20202020, 0x20202020), 20);
        e.is("text", w.text(LAW), -1);
        e.is("fault(1)", w.fault(1), 7);
        e.says(7, "NONE, and nothing comes, if there would be more than 400.");
        GriefWood full = wood();
        for (int i = 1; i <= 20; i++) {
            e.is("feed", full.feed(0x20202020, 0x20202020, 0x20202020, 0x20202020, 0x20202020), 20 * i);
        }
        e.is("feed", full.feed(-1, -1, -1, -1, -1), -1);
        e.yes("it has 400", full.end(400));
        e.yes("to 381", full.end(381));
        e.is("401 would be too many", full.feed(-1, -1, -1, -1, -1), -1);
        e.no("nothing came", full.end(382));
        e.yes("to 380", full.end(380));
        e.is("400 are not", full.feed(0x20202020, 0x20202020, 0x20202020, 0x20202020, 0x20202020), 400);
        e.is("blanks alone", full.text(LAW), 0);
        e.is("it is empty then", full.feed(0, 0, 0, 0, 0), 20);
    }

    private void end() {
        e.says(8, "The TAPE has its first n bytes alone: true;");
        GriefWood w = wood(10, 0, 0);
        w.feed(0x70617973, 0x20313233, 0x3b202020, 0x20202020, 0x2020203b);
        e.yes("as many as it has", w.end(20));
        e.yes("9", w.end(9));
        e.is("pays 123;", w.text(LAW), 1);
        e.is("pays 123;", w.of(0, 0, 30), 123);
        w.feed(0x70617973, 0x20313233, 0x3b202020, 0x20202020, 0x2020203b);
        e.yes("7", w.end(7));
        e.is("what comes then comes behind the 7th", w.feed(0x3b202020, 0x20202020, 0x20202020, 0x20202020,
            0x20202020), 27);
        e.is("pays 12;", w.text(LAW), 1);
        e.is("pays 12;", w.of(0, 0, 30), 12);
        e.yes("0 of none", w.end(0));
        w.feed(-1, -1, -1, -1, -1);
        e.yes("0", w.end(0));
        e.is("none is left", w.text(LAW), 0);
        // What was cut off belongs to no word or NUMBER that stood at the end.
        Due.tape(w, "payszz");
        w.end(4);
        e.is("pays", w.text(LAW), -1);
        e.is("the end", w.fault(1), 4);
        Due.tape(w, "pays 12345");
        w.end(9);
        e.is("pays 1234", w.text(LAW), -1);
        e.is("the end", w.fault(1), 9);
        e.says(8, "false, changing nothing, if it has not so many, or n is below 0.");
        for (int n : new int[] {8, 20, 400, 401, BIG, -1, SMALL}) {
            e.leaves(0, "end", n);
        }
        e.no("an empty one", wood().end(1));
        e.no("an empty one", wood().end(-1));
        GriefWood full = wood();
        for (int i = 0; i < 20; i++) {
            full.feed(0, 0, 0, 0, 0);
        }
        e.no("401", full.end(401));
        e.yes("400", full.end(400));
        e.yes("399", full.end(399));
        e.no("400 then", full.end(400));
    }

    private void text() {
        e.says(9, "The TAPE, empty then (whatever k, with a FAULT too), is TEXT k: how many lines.");
        String[] lines = {"pays 1;", "on 9 seeker 0 lead 1;", "cell 1 1 oak;", "on 9 table 1 pays 1;"};
        for (int k = 0; k <= 3; k++) {
            for (int n : new int[] {0, 1, 2, 16}) {
                GriefWood w = wood(10, 0, 0);
                e.told(w, k, lines[k].repeat(n), n);
                e.is("look", w.look(8 + k), n);
                e.no("empty then", w.end(1));
                for (int other = 0; other <= 3; other++) {
                    e.is("no other text", w.look(8 + other), other == k ? n : 0);
                }
            }
        }
        for (int k : new int[] {-1, 0, 1, 2, 3, 4, BIG, SMALL}) {
            GriefWood w = wood(10, 0, 0);
            Due.tape(w, "pays 1/0;");
            e.is("with a fault, or no such one", w.text(k), -1);
            e.no("empty then", w.end(1));
        }
        GriefWood again = wood(10, 0, 0);
        String longest = "pays 1 when x+" + "1*".repeat(180) + "1=2;pays 2;";
        for (int i = 0; i < 20; i++) {
            Due.tell(again, LAW, i % 2 == 0 ? "pays 0;" : longest);
        }
        e.is("each one afresh, however many were told", again.of(1, 0, 30), 1);
        e.is("each one afresh, however many were told", again.of(0, 0, 30), 2);
        e.faulty(again, LAW, "pays 1 when not ((((((1=1 and not", 1, 33);
        e.told(again, LAW, "pays 3 when ((((((((1=1))))))));pays 4;", 2);
        e.is("afresh behind one with a fault", again.of(0, 0, 30), 3);
        e.faulty(again, LAW, "pays 1 when ((((((((", 1, 20);
        e.faulty(again, LAW, "pays 3 when 1=1);", 1, 15);
        for (int i = 0; i < 6; i++) {
            e.faulty(again, LAW, "pays 1 when ((((((((", 1, 20);
        }
        e.told(again, LAW, "pays 3 when not(1=2 and 1=1 or not(1=1 and 1=1));pays 4;", 2);
        e.is("afresh behind many with a fault", again.of(0, 0, 30), 3);
        e.says(9, "NONE: no such one (fault() tells 0),");
        for (int k : new int[] {-1, 4, BIG, SMALL}) {
            GriefWood w = wood(10, 0, 0);
            e.faulty(w, LAW, "pays 1/0;", 2, 7);
            Due.tape(w, lines[0]);
            e.is("no such one", w.text(k), -1);
            e.is("fault(0)", w.fault(0), 0);
            e.is("fault(1)", w.fault(1), -1);
            e.is("no law", w.look(8), 0);
        }
        e.says(9, "or a FAULT (all stays as it was).");
        String[] bad = {"pays 5;pays 1/0;", "on 2 seeker 0 lead 5;on 2 seeker 2 lead 1;", "cell 5 5 oak;cell 6 6"
            + " truffle 10;",
            "on 2 table 9 pays 9;on 2 table 0 pays 1;"};
        int[] places = {14, 33, 30, 31};
        for (int k = 0; k <= 3; k++) {
            GriefWood one = Edges.rich();
            GriefWood other = Edges.rich();
            one.end(0);
            other.end(0);
            e.faulty(one, k, bad[k], 2, places[k]);
            // The same fault by a text that tells nothing, so that what fault() tells is alike.
            Due.tell(other, LAW, " ".repeat(places[k] - 7) + "pays 1/0");
            e.yes("all stays by " + bad[k],
                java.util.Arrays.equals(Edges.everything(one), Edges.everything(other)));
        }
    }

    private void fault() {
        e.says(10, "Of the latest text() what 0 the FAULT (0 without one), 1 its place (NONE).");
        GriefWood w = wood(10, 0, 0);
        e.is("none yet", w.fault(0), 0);
        e.is("none yet", w.fault(1), -1);
        e.faulty(w, LAW, "+", 1, 0);
        e.faulty(w, LAW, "pays 1/0;", 2, 7);
        e.faulty(w, MORNINGS, "on 1 seeker 0 lead 1;".repeat(16) + "on", 3, 336);
        Due.tape(w, "+");
        e.is("feed() and end() leave it", w.fault(0), 3);
        w.end(0);
        w.image(true);
        w.act(1, 0);
        w.undo();
        w.image(false);
        e.is("as does all else", w.fault(1), 336);
        e.told(w, LAW, "", 0);
        e.is("0 then", w.fault(0), 0);
        e.is("NONE then", w.fault(1), -1);
        e.says(10, "NONE for another what.");
        for (int what : new int[] {-1, 2, 3, BIG, SMALL}) {
            e.leaves(-1, "fault", what);
        }
    }
}
