/** The document's sentences on the wood, its mornings and what goes back: the edges that each names. */
final class WoodEdges {
    private static final int BIG = Integer.MAX_VALUE;
    private static final int SMALL = Integer.MIN_VALUE;
    private static final int TERMS = Edges.TERMS;

    private final Edges e;

    WoodEdges(Edges e) {
        this.e = e;
    }

    void test() {
        calls();
        draws();
        cells();
        seekers();
        totals();
        linesOfAMorning();
        solace();
        ways();
        edgesOfTheWood();
        stops();
        finds();
        tables();
        byHand();
        theBook();
        undone();
        forgotten();
        notForgotten();
        theImage();
        newObject();
        state();
        seeker();
        set();
        act();
        mornings();
        of();
        who();
        book();
        undo();
        image();
        look();
    }

    private static GriefWood wood(int... lossXY) {
        GriefWood w = new GriefWood();
        for (int i = 0; i + 2 < lossXY.length; i += 3) {
            w.seeker(lossXY[i], lossXY[i + 1], lossXY[i + 2]);
        }
        return w;
    }

    private static GriefWood wood(String law, int... lossXY) {
        GriefWood w = wood(lossXY);
        Due.tell(w, 0, law);
        return w;
    }

    private static int after(int state) {
        return (int) (1664525L * state + 1013904223L);
    }

    private static int cell(GriefWood w, int who) {
        return 8 * w.who(who, 2) + w.who(who, 1);
    }

    private void calls() {
        e.says(TERMS, "An object is used for at most 512 calls after it has been made;");
        GriefWood w = wood(9, 0, 0);
        for (int i = 2; i < 512; i++) {
            w.act(3, 0);
        }
        e.is("the 512th call", w.who(0, 5), 510);
        e.says(TERMS, "The constants: `NONE = -1`: None.");
        e.is("NONE", GriefWood.NONE, -1);
        e.says(TERMS, "Quotients go downwards.");
        // 4 depths are probed at 2, not at 3; rounded up, what lies deepest would be known at once.
        e.is("halves(4, 4)", w.halves(4, 4), 2);
    }

    private void draws() {
        e.says(TERMS, "STATE of draws (an int, 0 at first);");
        e.is("look(7)", wood().look(7), 0);
        for (int s : new int[] {SMALL, -1, 1, BIG}) {
            GriefWood w = wood();
            w.state(s);
            e.is("look(7)", w.look(7), s);
        }
        e.says(TERMS, "a DRAW of m: it becomes 1664525 times itself + 1013904223 (ints, which wrap),");
        int[] states = {0, 1, -1, BIG, SMALL, 1013904223, 1196435762, -559038737, 2147000000};
        for (int s : states) {
            GriefWood w = wood("stops 1;", 9, 3, 3);
            w.state(s);
            w.act(0, 0);
            e.is("behind a draw from " + s, w.look(7), after(s));
        }
        e.says(TERMS, "then it is its highest 24 bits (without sign) modulo m.");
        boolean below = false;
        for (int s : states) {
            below |= after(s) < 0;
            int draw = (int) ((after(s) & 0xffffffffL) / 256 % 1000);
            GriefWood w = wood("stops " + draw + ";", 9, 3, 3);
            w.state(s);
            w.act(0, 0);
            e.is("a draw is not below itself, from " + s, w.who(0, 5), 0);
            Due.tell(w, 0, "stops " + (draw + 1) + ";");
            w.state(s);
            w.act(0, 0);
            e.is("it is below one more, from " + s, w.who(0, 5), 1);
        }
        e.yes("one of the states above is below 0 behind its draw", below);
    }

    private void cells() {
        e.says(TERMS, "==== 1. THE WOOD: CELLS x, y (0 .. 7 each; y grows downwards).");
        for (int i = 0; i < 64; i++) {
            e.is("seeker", wood().seeker(9, i % 8, i / 8), 0);
            e.is("of", wood().of(i % 8, i / 8, 0), 0);
        }
        for (int v : new int[] {-1, 8, BIG, SMALL}) {
            e.is("x " + v, wood().seeker(9, v, 0), -1);
            e.is("y " + v, wood().seeker(9, 0, v), -1);
            e.is("x " + v, wood().of(v, 0, 0), -10000);
            e.is("y " + v, wood().of(0, v, 0), -10000);
        }
        GriefWood down = wood("draws y;", 9, 3, 3);
        e.is("down", down.who(0, 6), 2);
        down.act(0, 0);
        e.is("y is one more", down.who(0, 2), 4);
        e.says(TERMS, "Of a CELL: OAK 0, 1, TRUFFLE 0 .. 9 (its weight; 0: none), DUG (how often, an int; all 0 at"
            + " first).");
        GriefWood w = wood(9, 1, 1);
        for (int i = 0; i < 64; i++) {
            e.is("oak, truffle, dug", w.of(i % 8, i / 8, 0) | w.of(i % 8, i / 8, 1) | w.of(i % 8, i / 8, 2), 0);
        }
        w = wood(9, 1, 1);
        e.told(w, 2, "cell 1 1 oak;cell 1 1 oak;cell 1 1 truffle 9;cell 1 1 truffle 9;", 4);
        e.is("an oak twice is 1", w.of(1, 1, 0), 1);
        e.is("9 twice is 9", w.of(1, 1, 1), 9);
        for (int i = 1; i <= 100; i++) {
            w.act(3, 0);
        }
        e.is("dug", w.of(1, 1, 2), 100);
        e.is("truffle", w.of(1, 1, 1), 0);
    }

    private void seekers() {
        e.says(TERMS, "SEEKERS 0 .. 9 as they come: LOSS 0 .. 99, x, y,");
        GriefWood w = wood();
        for (int i = 0; i < 10; i++) {
            e.is("seeker", w.seeker(11 * i, i % 8, 7 - i % 8), i);
        }
        for (int i = 0; i < 10; i++) {
            e.is("loss", w.who(i, 0), 11 * i);
            e.is("x", w.who(i, 1), i % 8);
            e.is("y", w.who(i, 2), 7 - i % 8);
        }
        e.is("loss 0", wood().seeker(0, 0, 0), 0);
        e.is("loss 99", wood().seeker(99, 0, 0), 0);
        e.is("loss -1", wood().seeker(-1, 0, 0), -1);
        e.is("loss 100", wood().seeker(100, 0, 0), -1);
        e.says(TERMS, "SOLACE 0 .. 9 (0 at first),");
        w = wood(9, 0, 0);
        e.is("at first", w.who(0, 3), 0);
        e.yes("9", w.set(1, 0, 9));
        e.yes("0", w.set(1, 0, 0));
        e.no("10", w.set(1, 0, 10));
        e.no("-1", w.set(1, 0, -1));
        e.says(TERMS, "FOUND (weight, an int, 0 at first), STOPS (an int, 0 at first).");
        w = wood();
        w.image(true);
        w.seeker(9, 0, 0);
        e.is("found", w.who(0, 4), 0);
        e.is("stops", w.who(0, 5), 0);
        Due.tell(w, 2, "cell 0 0 truffle 9;");
        w.act(1, 0);
        w.act(3, 0);
        e.is("found", w.who(0, 4), 9);
        w.image(false);
        w.seeker(8, 1, 1);
        for (int what = 3; what <= 5; what++) {
            e.is("one who comes when another has gone", w.who(0, what), 0);
        }
    }

    private void totals() {
        e.says(TERMS, "BASKET (weight not sold yet, an int, 0 at first),");
        GriefWood w = wood(9, 0, 0);
        e.is("at first", w.look(3), 0);
        w.set(2, 0, 9999);
        Due.tell(w, 2, "cell 0 0 truffle 9;");
        w.act(3, 0);
        e.is("beyond what can be set", w.look(3), 10008);
        e.says(TERMS, "COINS (an int, 0 at first),");
        w = wood("pays 999;", 9, 0, 0);
        e.is("at first", w.look(4), 0);
        for (int i = 1; i <= 12; i++) {
            Due.tell(w, 2, "cell 0 0 truffle 1;");
            w.act(3, 0);
        }
        e.is("beyond 9999", w.look(4), 12 * 999);
        e.says(TERMS, "MORNING 0 .. 9999 (0 at first).");
        w = wood();
        e.is("at first", w.look(5), 0);
        for (int i = 0; i < 166; i++) {
            w.mornings(60);
        }
        e.is("up to the last", w.mornings(39), 0);
        e.is("the last", w.look(5), 9999);
        e.is("none behind it", w.mornings(1), -1);
        e.is("the last", w.look(5), 9999);
    }

    private void linesOfAMorning() {
        e.says(TERMS, "==== 3. A MORNING. (a) Line by line of MORNINGS for it:");
        GriefWood w = wood(9, 0, 0, 9, 0, 0);
        e.told(w, 1, "on 1 seeker 0 console 9;on 1 seeker 0 mourn 2;on 0 seeker 1 mourn 2;on 0 seeker 1 console 9;", 4);
        w.mornings(1);
        e.is("not for it", w.who(0, 3), 0);
        e.is("mourn, then console", w.who(1, 3), 9);
        w.mornings(1);
        e.is("console, then mourn", w.who(0, 3), 7);
        w.mornings(1);
        e.is("not again", w.who(0, 3), 7);
        GriefWood late = wood(9, 0, 0);
        late.mornings(1);
        e.told(late, 1, "on 0 seeker 0 console 9;", 1);
        late.mornings(60);
        e.is("a line for one that is past", late.who(0, 3), 0);
        e.is("nobody, no line", wood().mornings(60), 0);
        e.says(TERMS, "stand: he is on that CELL;");
        for (int i = 0; i < 64; i += 9) {
            GriefWood s = wood("stops 1000;", 9, 4, 4);
            e.told(s, 1, "on 0 seeker 0 stand " + i % 8 + " " + i / 8 + ";", 1);
            s.mornings(1);
            e.is("there", cell(s, 0), i);
            e.is("he does not stop", s.who(0, 5), 0);
            e.is("no draw", s.look(7), 0);
        }
        GriefWood corner = wood(9, 4, 4);
        e.told(corner, 1, "on 0 seeker 0 stand 7 0;on 1 seeker 0 stand 0 7;", 2);
        corner.mornings(1);
        e.is("x, then y", cell(corner, 0), 7);
        corner.mornings(1);
        e.is("x, then y", cell(corner, 0), 56);
        e.says(TERMS, "lead: N times a STEP:");
        for (int n : new int[] {1, 2, 7, 19, 20}) {
            GriefWood l = wood("stops 1000;draws 0-dug-10*y;", 9, 0, 0);
            e.told(l, 1, "on 0 seeker 0 lead " + n + ";", 1);
            l.mornings(1);
            e.is("he stops at each", l.who(0, 5), n);
            e.is("lines of the book", l.look(6), n);
        }
    }

    private void solace() {
        e.says(TERMS, "console, mourn: SOLACE N more (9 at most), N less (0 at least);");
        int[][] due = {{0, 1, 1}, {0, 9, 9}, {8, 1, 9}, {8, 2, 9}, {9, 1, 9}, {9, 9, 9}, {1, 8, 9}, {1, 9, 9}, {3,
            5, 8}};
        for (int[] d : due) {
            GriefWood w = wood(9, 0, 0);
            w.set(1, 0, d[0]);
            Due.tell(w, 1, "on 0 seeker 0 console " + d[1] + ";");
            e.is("mornings", w.mornings(1), 0);
            e.is(d[0] + " and " + d[1] + " more", w.who(0, 3), d[2]);
        }
        due = new int[][] {{9, 1, 8}, {9, 9, 0}, {1, 1, 0}, {1, 2, 0}, {0, 1, 0}, {0, 9, 0}, {8, 9, 0}, {8, 3, 5}};
        for (int[] d : due) {
            GriefWood w = wood(9, 0, 0);
            w.set(1, 0, d[0]);
            Due.tell(w, 1, "on 0 seeker 0 mourn " + d[1] + ";");
            e.is("mornings", w.mornings(1), 0);
            e.is(d[0] + " and " + d[1] + " less", w.who(0, 3), d[2]);
        }
    }

    private void ways() {
        e.says(TERMS, "he goes to the first one that draws him most (also if all draw him below 0);");
        String[] laws = {"draws 5;", "draws 0-5;", "draws 0-9999;", "draws x;", "draws y;", "draws 0-x;", "draws 0-y;",
            "draws x+y;", "draws y-x;", "draws 0-x-y;", "draws x-y;", "draws 0 when x=4;draws 1;",
            "draws 0 when y=4;draws 1;", "draws 0-1 when y=3;draws 0-2;", "draws 0-2 when y=3;draws 0-1;"};
        int[] sides = {0, 0, 0, 1, 2, 3, 0, 1, 2, 0, 0, 1, 0, 0, 1};
        for (int i = 0; i < laws.length; i++) {
            GriefWood w = wood(laws[i], 9, 4, 4);
            e.is("from 4, 4 by " + laws[i], w.who(0, 6), sides[i]);
            w.act(0, 0);
            e.is("from 4, 4 by " + laws[i], cell(w, 0), 36 + new int[] {-8, 1, 8, -1}[sides[i]]);
        }
    }

    private void edgesOfTheWood() {
        e.says(TERMS, "of the CELLS up, right, down, left of his that there are (in this order)");
        // From x, y the side if all draw alike, if up, right, down, left draws him.
        int[][] due = {{0, 0, 1, 1, 1, 2, 1}, {7, 0, 2, 2, 2, 2, 3}, {0, 7, 0, 0, 1, 0, 0}, {7, 7, 0, 0, 0, 0, 3},
            {3, 0, 1, 1, 1, 2, 3}, {3, 7, 0, 0, 1, 0, 3}, {0, 3, 0, 0, 1, 2, 0}, {7, 3, 0, 0, 0, 2, 3},
            {3, 3, 0, 0, 1, 2, 3}};
        for (int[] d : due) {
            String[] laws = {"draws 7;", "draws 1 when y<" + d[1] + ";draws 0;", "draws 1 when x>" + d[0] + ";draws 0;",
                "draws 1 when y>" + d[1] + ";draws 0;", "draws 1 when x<" + d[0] + ";draws 0;"};
            for (int i = 0; i < laws.length; i++) {
                GriefWood w = wood(laws[i], 9, d[0], d[1]);
                String from = "from " + d[0] + ", " + d[1] + " by " + laws[i];
                e.is(from, w.who(0, 6), d[2 + i]);
                w.act(0, 0);
                e.is(from + " x", w.who(0, 1), d[0] + new int[] {0, 1, 0, -1}[d[2 + i]]);
                e.is(from + " y", w.who(0, 2), d[1] + new int[] {-1, 0, 1, 0}[d[2 + i]]);
            }
        }
        // Were the rows joined end to end, the truffle would lie right of 7, 3, and left of 0, 4.
        GriefWood right = wood(9, 7, 3);
        e.told(right, 2, "cell 0 4 truffle 9;", 1);
        e.is("no way round the edge", right.who(0, 6), 0);
        GriefWood left = wood(9, 0, 4);
        e.told(left, 2, "cell 7 3 truffle 9;", 1);
        e.is("no way round the edge", left.who(0, 6), 0);
        GriefWood up = wood(9, 3, 0);
        e.told(up, 2, "cell 3 7 truffle 9;", 1);
        e.is("no way round the edge", up.who(0, 6), 1);
    }

    private void stops() {
        e.says(TERMS, "stops is asked of the CELL where he is then, is it above 0, a DRAW of 1000:");
        GriefWood w = wood("stops 1000 when x=4;stops 0;draws x;", 9, 3, 3);
        w.act(0, 0);
        e.is("the one to which he went", w.who(0, 5), 1);
        w.act(0, 0);
        e.is("not the one from which he went", w.who(0, 5), 1);
        e.is("one draw", w.look(7), after(0));
        GriefWood below = wood("stops 0-5;", 9, 3, 3);
        below.act(0, 0);
        e.is("0: none", below.look(7), 0);
        GriefWood one = wood("stops 1;", 9, 3, 3);
        one.act(0, 0);
        e.is("1: one", one.look(7), after(0));
        e.is("1: one", one.who(0, 5), 0);
        e.says(TERMS, "below it he stops:");
        // From 0 the draw is 1013904223 by 256 of 1000: 563.
        int[][] due = {{1, 0}, {562, 0}, {563, 0}, {564, 1}, {999, 1}, {1000, 1}, {1001, 1}};
        for (int[] d : due) {
            GriefWood s = wood("stops " + d[0] + ";", 9, 3, 3);
            s.act(0, 0);
            e.is("563 below " + d[0], s.who(0, 5), d[1]);
        }
        GriefWood always = wood("stops 1000;", 9, 3, 3);
        for (int i = 0; i < 400; i++) {
            always.act(0, 0);
        }
        e.is("1000: always", always.who(0, 5), 400);
        e.says(TERMS, "STOPS one more, DUG of the CELL one more;");
        GriefWood s = wood("stops 1000;draws x;", 9, 3, 3, 9, 4, 3);
        s.act(0, 0);
        e.is("his", s.who(0, 5), 1);
        e.is("not another's", s.who(1, 5), 0);
        e.is("where he is", s.of(4, 3, 2), 1);
        e.is("not where he was", s.of(3, 3, 2), 0);
        e.is("lines of the book", s.look(6), 1);
    }

    private void finds() {
        e.says(TERMS, "is there a TRUFFLE: pays is asked (FOUND, BASKET, TRUFFLE as ahead of it),");
        GriefWood w = wood("pays 100*found+10*basket+truffle;", 9, 3, 3);
        e.told(w, 2, "cell 3 3 truffle 4;", 1);
        w.set(2, 0, 2);
        w.act(3, 0);
        e.is("0, 2, 4", w.look(4), 24);
        e.told(w, 2, "cell 3 3 truffle 1;", 1);
        w.set(2, 0, 0);
        w.act(3, 0);
        e.is("4, 0, 1", w.look(4), 24 + 401);
        w.act(3, 0);
        e.is("without one nothing is paid", w.look(4), 425);
        e.says(TERMS, "COINS so much more, FOUND, BASKET as much more as it weighs, it is 0 then.");
        for (int weight : new int[] {1, 9}) {
            GriefWood f = wood("pays 0;stops 1000;draws x;", 9, 3, 3, 9, 0, 0);
            Due.tell(f, 2, "cell 4 3 truffle " + weight + ";cell 4 3 oak;");
            f.set(2, 0, 100);
            f.act(0, 0);
            e.is("coins", f.look(4), 0);
            e.is("found", f.who(0, 4), weight);
            e.is("not another's", f.who(1, 4), 0);
            e.is("basket", f.look(3), 100 + weight);
            e.is("truffle", f.of(4, 3, 1), 0);
            e.is("the oak stays", f.of(4, 3, 0), 1);
            f.act(3, 0);
            e.is("nothing more", f.who(0, 4), weight);
            e.is("nothing more", f.look(3), 100 + weight);
        }
    }

    private void tables() {
        e.says(TERMS, "(b) Line by line of TABLES for it: is BASKET then N at least, it is N less, COINS as much"
            + " more as it"
            + " pays.");
        int[][] due = {{0, 0, 0}, {4, 4, 0}, {5, 0, 7}, {6, 1, 7}, {9999, 9994, 7}};
        for (int[] d : due) {
            GriefWood w = wood();
            e.told(w, 3, "on 0 table 5 pays 7;", 1);
            w.set(2, 0, d[0]);
            e.is("sold is not found", w.mornings(1), 0);
            e.is("basket of " + d[0], w.look(3), d[1]);
            e.is("coins for " + d[0], w.look(4), d[2]);
        }
        GriefWood w = wood();
        e.told(w, 3, "on 0 table 5 pays 100;on 0 table 3 pays 10;on 0 table 2 pays 1;on 1 table 1 pays 999;", 4);
        w.set(2, 0, 7);
        w.mornings(1);
        e.is("5, then 2, for 3 is too much then", w.look(4), 101);
        e.is("basket", w.look(3), 0);
        w.mornings(60);
        e.is("nothing is left for the next", w.look(4), 101);
        GriefWood found = wood("stops 1000;", 9, 3, 3);
        e.told(found, 2, "cell 3 2 truffle 5;", 1);
        e.told(found, 1, "on 0 seeker 0 lead 1;", 1);
        e.told(found, 3, "on 0 table 5 pays 70;", 1);
        e.is("found", found.mornings(1), 5);
        e.is("and sold on the same morning", found.look(4), 75);
        e.says(TERMS, "MORNING is one more.");
        GriefWood m = wood("pays morning;", 9, 3, 3);
        m.mornings(1);
        e.is("one", m.look(5), 1);
        m.mornings(60);
        e.is("sixty more", m.look(5), 61);
        e.is("the law's, too", m.of(0, 0, 30), 61);
    }

    private void byHand() {
        e.says(TERMS, "By hand: to LEAD a SEEKER one STEP (all of it, as in (a)),");
        GriefWood hand = wood("stops 600;", 90, 3, 3);
        GriefWood line = wood("stops 600;", 90, 3, 3);
        for (GriefWood w : new GriefWood[] {hand, line}) {
            e.told(w, 2, "cell 3 2 truffle 5;cell 4 2 truffle 7;cell 4 1 oak;", 3);
        }
        e.told(line, 1, "on 0 seeker 0 lead 3;", 1);
        line.mornings(1);
        for (int i = 0; i < 3; i++) {
            e.yes("a step", hand.act(0, 0));
        }
        for (int what = 0; what < 7; what++) {
            e.is("who(0, " + what + ")", hand.who(0, what), line.who(0, what));
        }
        for (int what : new int[] {2, 3, 4, 6, 7}) {
            e.is("look(" + what + ")", hand.look(what), line.look(what));
        }
        e.yes("something was found", hand.look(3) > 0);
        e.is("but no morning goes by", hand.look(5), 0);
        e.says(TERMS, "to CONSOLE one (SOLACE one more, below 9),");
        GriefWood w = wood(9, 0, 0, 9, 0, 0);
        w.set(1, 0, 8);
        e.yes("8", w.act(1, 0));
        e.is("9", w.who(0, 3), 9);
        e.no("9", w.act(1, 0));
        e.is("9", w.who(0, 3), 9);
        e.is("not another's", w.who(1, 3), 0);
        e.says(TERMS, "to let one MOURN (SOLACE one less, above 0),");
        w.set(1, 0, 1);
        e.yes("1", w.act(2, 0));
        e.is("0", w.who(0, 3), 0);
        e.no("0", w.act(2, 0));
        e.is("0", w.who(0, 3), 0);
        e.says(TERMS, "to DIG where one stands (as if he stopped there, STOPS, too, without a DRAW).");
        GriefWood d = wood("stops 0;", 0, 3, 3);
        e.told(d, 2, "cell 3 3 truffle 5;", 1);
        e.yes("dig", d.act(3, 0));
        e.is("where he stands", cell(d, 0), 27);
        e.is("stops", d.who(0, 5), 1);
        e.is("dug", d.of(3, 3, 2), 1);
        e.is("found", d.who(0, 4), 5);
        e.is("no draw", d.look(7), 0);
        e.is("a line of the book", d.look(6), 1);
    }

    private void theBook() {
        e.says(TERMS, "THE BOOK (150 lines; no more then):");
        GriefWood w = wood(9, 7, 7);
        e.told(w, 3, "on 0 table 1 pays 3;on 1 table 1 pays 3;", 2);
        for (int i = 1; i <= 149; i++) {
            w.act(3, 0);
        }
        e.is("149", w.look(6), 149);
        w.set(2, 0, 2);
        w.mornings(1);
        e.is("150", w.look(6), 150);
        e.is("the last one", w.book(149, 1), 2);
        w.act(3, 0);
        w.mornings(1);
        e.told(w, 2, "cell 7 7 truffle 9;", 1);
        w.act(3, 0);
        e.is("150", w.look(6), 150);
        e.is("the last one stays", w.book(149, 1), 2);
        e.is("none behind it", w.book(150, 0), -2);
        e.is("but all is done", w.who(0, 5), 151);
        e.is("but all is done", w.who(0, 4), 9);
        e.is("but all is done", w.look(4), 15);
        e.says(TERMS, "MORNING, what (0 found, 1 dug for nothing, 2 sold), who (the SEEKER; 2: NONE), how much (0:"
            + " weight;"
            + " 1: 8 times y and x; 2: what it pays).");
        GriefWood b = wood("pays 50;", 9, 7, 0, 9, 0, 7);
        e.told(b, 2, "cell 7 0 truffle 4;", 1);
        e.told(b, 3, "on 1 table 4 pays 999;", 1);
        b.mornings(1);
        b.act(3, 0);
        b.act(3, 0);
        b.act(3, 1);
        b.mornings(1);
        int[][] due = {{1, 0, 0, 4}, {1, 1, 0, 7}, {1, 1, 1, 56}, {1, 2, -1, 999}};
        e.is("lines", b.look(6), due.length);
        for (int i = 0; i < due.length; i++) {
            for (int what = 0; what < 4; what++) {
                e.is("book(" + i + ", " + what + ")", b.book(i, what), due[i][what]);
            }
        }
    }

    /** One with a truffle above him that he finds, if led. */
    private GriefWood leading() {
        GriefWood w = wood("stops 1000;", 50, 3, 3);
        Due.tell(w, 2, "cell 3 2 truffle 5;");
        Due.tell(w, 1, "on 0 seeker 0 lead 1;on 1 seeker 0 console 2;");
        Due.tell(w, 3, "on 0 table 5 pays 70;");
        w.state(77);
        return w;
    }

    private void undone() {
        e.says(TERMS, "UNDO: the latest MORNING, STEP, CONSOLING, MOURNING, DIGGING by hand not undone yet goes back"
            + " (STATE,"
            + " THE BOOK, THE WOOD, too):");
        for (int kind = 0; kind < 5; kind++) {
            GriefWood w = leading();
            w.set(1, 0, 4);
            GriefWood other = leading();
            other.set(1, 0, 4);
            if (kind == 4) {
                e.is("a morning", w.mornings(1), 5);
            } else {
                e.yes("by hand", w.act(kind, 0));
            }
            e.is("one is kept", w.look(12), 1);
            e.yes("undo", w.undo());
            e.yes("all is as it was ahead of " + kind,
                java.util.Arrays.equals(Edges.everything(w), Edges.everything(other)));
        }
        GriefWood w = leading();
        w.mornings(2);
        w.act(2, 0);
        e.yes("the mourning", w.undo());
        e.is("solace", w.who(0, 3), 2);
        e.yes("morning 1", w.undo());
        e.is("solace", w.who(0, 3), 0);
        e.is("morning", w.look(5), 1);
        e.is("a find and its sale are still there", w.look(6), 2);
        w.act(1, 0);
        e.yes("what came behind an undo", w.undo());
        e.is("solace", w.who(0, 3), 0);
        e.yes("morning 0", w.undo());
        e.is("state", w.look(7), 77);
        e.is("book", w.look(6), 0);
        e.is("truffle", w.of(3, 2, 1), 5);
        e.is("dug", w.of(3, 2, 2), 0);
        e.no("no more", w.undo());
        e.says(TERMS, "6 are kept;");
        for (int n : new int[] {1, 5, 6, 7, 8, 60}) {
            GriefWood k = wood(9, 0, 0);
            k.mornings(n);
            e.is("of " + n, k.look(12), Math.min(n, 6));
            for (int i = 1; i <= Math.min(n, 6); i++) {
                e.yes("undo", k.undo());
                e.is("morning", k.look(5), n - i);
            }
            e.no("no more of " + n, k.undo());
            e.is("morning", k.look(5), Math.max(0, n - 6));
        }
        GriefWood mixed = wood(9, 0, 0);
        for (int i = 0; i < 7; i++) {
            mixed.act(1, 0);
        }
        for (int i = 0; i < 3; i++) {
            mixed.undo();
        }
        for (int i = 0; i < 5; i++) {
            mixed.act(1, 0);
        }
        for (int i = 0; i < 6; i++) {
            e.yes("undo", mixed.undo());
        }
        e.is("7 less 3 and 5 less 6", mixed.who(0, 3), 3);
        e.no("no more", mixed.undo());
    }

    private void forgotten() {
        e.says(TERMS, "forgets them.");
        String[] names = {"state", "seeker", "set", "set", "set", "text", "text", "text", "image"};
        int[][] args = {{0}, {9, 0, 0}, {0, 0, 9}, {1, 0, 1}, {2, 0, 0}, {1}, {2}, {3}, {0}};
        for (int i = 0; i < names.length; i++) {
            GriefWood w = wood(9, 0, 0);
            w.image(true);
            w.act(1, 0);
            w.mornings(3);
            Calls.call(w, names[i], args[i]);
            e.is(names[i] + " forgets", w.look(12), 0);
            e.no(names[i] + " forgets", w.undo());
            w.act(1, 0);
            e.is("one is kept then", w.look(12), 1);
            e.yes("undo", w.undo());
            e.no("no more", w.undo());
        }
        e.says(TERMS, "whatever else is told but THE LAW and what is told for thought (SHARES, CUT, PAIRS, HOLLOW,"
            + " THREE,"
            + " POUNDS, SPADES)");
        names = new String[] {"text", "finds", "part", "part", "wish", "height", "height", "third", "third", "sum",
            "sum",
            "spade", "spade"};
        args = new int[][] {{0}, {1, 5}, {3}, {-1}, {0, 0, 3210}, {3}, {-1}, {3}, {-1}, {1, 2, 3}, {-1, 0, 0}, {3},
            {-1}};
        for (int i = 0; i < names.length; i++) {
            GriefWood w = wood(9, 0, 0);
            w.act(1, 0);
            w.mornings(3);
            Calls.call(w, names[i], args[i]);
            e.is(names[i] + " keeps", w.look(12), 4);
            for (int k = 0; k < 4; k++) {
                e.yes(names[i] + " keeps", w.undo());
            }
            e.is("solace", w.who(0, 3), 0);
        }
        GriefWood w = wood(9, 0, 0);
        w.act(1, 0);
        Due.tell(w, 0, "pays 77;");
        w.part(5);
        w.undo();
        e.is("the law does not go back", w.of(0, 0, 30), 77);
        e.is("what is told for thought does not go back", w.cut(1, 0), 5);
    }

    private void notForgotten() {
        e.says(TERMS, "(feed(), end(), what is refused, a text with a FAULT, the taking of THE IMAGE do not)");
        GriefWood w = wood(9, 0, 0);
        w.act(1, 0);
        w.mornings(3);
        w.feed(0, 0, 0, 0, 0);
        e.is("feed()", w.look(12), 4);
        w.end(3);
        e.is("end()", w.look(12), 4);
        w.text(1);
        e.is("a text with a fault", w.look(12), 4);
        for (int k = 0; k <= 3; k++) {
            Due.tell(w, k, ";");
            e.is("a text with a fault", w.look(12), 4);
        }
        w.text(4);
        w.text(-1);
        e.is("no such text", w.look(12), 4);
        w.image(true);
        e.is("the taking", w.look(12), 4);
        String[] names = {"seeker", "seeker", "set", "set", "set", "set", "act", "act", "act", "mornings", "mornings",
            "feed", "end", "finds", "part", "wish", "height", "third", "sum", "spade"};
        int[][] args = {{100, 0, 0}, {9, 8, 0}, {0, 1, 5}, {1, 0, 10}, {2, 0, 10000}, {3, 0, 0}, {4, 0}, {0, 1},
            {-1, 0},
            {0}, {61}, {0, 0, 0, 0, 0}, {-1}, {0, 1}, {0}, {0, 0, 0}, {100}, {61}, {100, 0, 0}, {1024}};
        for (int i = 0; i < 20; i++) {
            w.feed(0, 0, 0, 0, 0);
        }
        for (int i = 0; i < names.length; i++) {
            Calls.call(w, names[i], args[i]);
            e.is(names[i] + " refused", w.look(12), 4);
        }
        for (int i = 0; i < 4; i++) {
            e.yes("undo", w.undo());
        }
        e.no("no more", w.undo());
        GriefWood none = wood(9, 0, 0);
        none.act(1, 0);
        e.no("no image to go back to", none.image(false));
        e.is("it is refused", none.look(12), 1);
        GriefWood full = wood(9, 0, 0);
        for (int i = 0; i < 9; i++) {
            full.seeker(9, 0, 0);
            full.act(1, 0);
        }
        e.is("the eleventh", full.seeker(9, 0, 0), -1);
        e.no("console beyond 9", full.act(1, 0));
        e.is("refused", full.look(12), 1);
    }

    private void theImage() {
        e.says(TERMS, "THE IMAGE: all that is and was told but the TAPE, fault() and what can be undone (nothing"
            + " then), as it"
            + " was when it was taken;");
        GriefWood w = Edges.rich();
        w.image(true);
        changeAll(w);
        Due.tell(w, 0, "pays 5 5;");
        w.feed(0x70617973, 0x20373b20, 0x20202020, 0x20202020, 0x20202020);
        e.yes("gone back to", w.image(false));
        e.is("fault() is the latest text's", w.fault(1), 7);
        e.is("nothing to undo", w.look(12), 0);
        e.no("nothing to undo", w.undo());
        e.is("the tape stays", w.text(0), 1);
        e.is("the tape stays", w.of(0, 0, 30), 7);
        int[] more = {3, 4, 4, 2, 2};
        String[] rows = {"part", "height", "third", "spade", "sum"};
        GriefWood told = taken();
        changeAll(told);
        told.image(false);
        for (int i = 0; i < rows.length; i++) {
            int[] one = i == 4 ? new int[] {1, 1, 1} : new int[] {1};
            e.is("one more behind those that were told: " + rows[i], Calls.call(told, rows[i], one), more[i]);
        }
        GriefWood book = wood(9, 0, 0, 9, 7, 7);
        book.act(3, 0);
        book.image(true);
        book.undo();
        book.act(3, 1);
        e.is("another line", book.book(0, 3), 63);
        book.image(false);
        e.is("the line as it was", book.book(0, 3), 0);
        e.is("the line as it was", book.book(0, 2), 0);
        wishesGoBack();
        GriefWood law = wood("draws 7;stops 8 when x=1;pays 9;", 9, 0, 0);
        law.image(true);
        Due.tell(law, 0, "pays 1 when x=0;stops 2;");
        law.image(false);
        e.is("the law as it was", law.of(1, 0, 10), 7);
        e.is("the law as it was", law.of(1, 0, 20), 8);
        e.is("the law as it was", law.of(0, 0, 30), 9);
        e.says(TERMS, "gone back to it may be more than once.");
        GriefWood once = taken();
        once.image(false);
        GriefWood thrice = taken();
        for (int i = 0; i < 3; i++) {
            changeAll(thrice);
            e.yes("gone back to", thrice.image(false));
        }
        Due.tell(once, 0, ";");
        Due.tell(thrice, 0, ";");
        e.yes("all is as it was", java.util.Arrays.equals(Edges.everything(once), Edges.everything(thrice)));
    }

    private void wishesGoBack() {
        int[] firstIs = {123, 1023, 2013, 3012};
        int[] lastIs = {1230, 231, 132, 123};
        for (int i = 0; i < 4; i++) {
            // Seeker i and a boy like one another best; all would have boy i, who likes seeker 3 best.
            int boy = (i + 1) % 4;
            GriefWood w = wood();
            w.wish(0, i, firstIs[boy]);
            w.wish(1, boy, firstIs[i]);
            w.image(true);
            w.wish(0, i, lastIs[boy]);
            e.yes("another boy", digit(w.pairs(0), i) != boy);
            w.image(false);
            e.is("the boy as it was", digit(w.pairs(0), i), boy);
            GriefWood b = wood();
            for (int k = 0; k < 4; k++) {
                b.wish(0, k, firstIs[i]);
            }
            b.wish(1, i, firstIs[3]);
            b.image(true);
            b.wish(1, i, firstIs[0]);
            e.is("another seeker", digit(b.pairs(0), 0), i);
            b.image(false);
            e.is("the seeker as it was", digit(b.pairs(0), 3), i);
        }
    }

    private static int digit(int row, int i) {
        return String.format("%04d", row).charAt(i) - '0';
    }

    private static GriefWood taken() {
        GriefWood w = Edges.rich();
        w.image(true);
        w.text(4);
        return w;
    }

    private static void changeAll(GriefWood w) {
        w.act(0, 0);
        w.act(3, 1);
        w.mornings(4);
        w.seeker(3, 3, 3);
        w.set(0, 0, 1);
        w.set(1, 1, 9);
        w.set(2, 0, 500);
        w.state(5);
        w.text(0);
        w.text(1);
        Due.tell(w, 2, "cell 0 0 oak;cell 3 3 bare;cell 1 1 truffle 1;");
        w.text(3);
        for (int set = 1; set <= 7; set++) {
            w.finds(set, 90 + set);
            w.wish(0, set % 4, 123);
            w.wish(1, set % 4, 3210);
        }
        for (int v : new int[] {-1, 60, 50, 40, 30}) {
            w.part(v);
            w.height(v);
            w.third(v);
            w.spade(v);
            w.sum(v, 9, 9);
        }
        w.act(1, 0);
    }

    private void newObject() {
        e.says(1, "A wood without oaks.");
        GriefWood w = wood();
        e.is("oaks", w.look(1), 0);
        e.is("stands", w.stands(0), 0);
        for (int what = 0; what <= 12; what++) {
            e.is("look", w.look(what), 0);
        }
        for (int i = 0; i < 64; i++) {
            e.is("oak", w.of(i % 8, i / 8, 0), 0);
        }
        e.is("fault(0)", w.fault(0), 0);
        e.is("fault(1)", w.fault(1), -1);
        e.no("end(1)", w.end(1));
        GriefWood other = wood();
        Due.tell(w, 2, "cell 0 0 oak;");
        e.is("each has its own", other.look(1), 0);
    }

    private void state() {
        e.says(2, "STATE is told: what it was.");
        GriefWood w = wood();
        int[] states = {5, BIG, SMALL, -1, 0};
        int before = 0;
        for (int s : states) {
            e.is("what it was", w.state(s), before);
            e.is("what it is", w.look(7), s);
            before = s;
        }
    }

    private void seeker() {
        e.says(3, "A SEEKER on a CELL: the number;");
        GriefWood w = wood();
        for (int i = 0; i < 10; i++) {
            e.is("the number", w.seeker(9, 7, 7), i);
        }
        e.is("all on one", w.of(7, 7, 3), 1023);
        e.says(3, "NONE if one can't be,");
        for (int v : new int[] {-1, 100, BIG, SMALL}) {
            e.leaves(-1, "seeker", v, 0, 0);
        }
        for (int v : new int[] {-1, 8, BIG, SMALL}) {
            e.leaves(-1, "seeker", 9, v, 0);
            e.leaves(-1, "seeker", 9, 0, v);
        }
        e.says(3, "or there are ten.");
        e.is("the eleventh", w.seeker(9, 0, 0), -1);
        e.is("ten", w.look(0), 10);
        e.is("not on it", w.of(0, 0, 3), 0);
        e.is("no such one", w.who(10, 0), -1);
    }

    private void set() {
        e.says(4, "What 0 LOSS, 1 SOLACE of SEEKER who, 2 BASKET (0 .. 9999; who not asked): true;");
        GriefWood w = wood(9, 0, 0, 9, 0, 0);
        int[][] due = {{0, 0, 0}, {0, 1, 99}, {0, 0, 98}, {1, 0, 9}, {1, 1, 0}, {1, 1, 8}};
        for (int[] d : due) {
            e.yes("set", w.set(d[0], d[1], d[2]));
            e.is("it is so", w.who(d[1], d[0] == 0 ? 0 : 3), d[2]);
        }
        e.is("the other's stays", w.who(0, 0), 98);
        e.is("the other's stays", w.who(0, 3), 9);
        for (int who : new int[] {0, 2, -1, BIG, SMALL}) {
            e.yes("whoever", w.set(2, who, 9999));
            e.is("basket", w.look(3), 9999);
            e.yes("whoever", w.set(2, who, 0));
            e.is("basket", w.look(3), 0);
        }
        e.yes("nobody is there", wood().set(2, 0, 1));
        e.says(4, "false if one can't be,");
        for (int v : new int[] {-1, 100, BIG, SMALL}) {
            e.leaves(0, "set", 0, 0, v);
        }
        for (int v : new int[] {-1, 10, BIG, SMALL}) {
            e.leaves(0, "set", 1, 0, v);
        }
        for (int v : new int[] {-1, 10000, BIG, SMALL}) {
            e.leaves(0, "set", 2, 0, v);
        }
        for (int who : new int[] {-1, 2, 10, BIG, SMALL}) {
            e.leaves(0, "set", 0, who, 5);
            e.leaves(0, "set", 1, who, 5);
        }
        e.says(4, "or another what.");
        for (int what : new int[] {-1, 3, BIG, SMALL}) {
            e.leaves(0, "set", what, 0, 1);
        }
    }

    private void act() {
        e.says(5, "What 0 to LEAD SEEKER who a STEP, 1 to CONSOLE, 2 to let MOURN, 3 to DIG where he stands: true;");
        GriefWood w = wood(0, 0, 0, 0, 3, 3);
        e.yes("lead", w.act(0, 1));
        e.is("led", w.who(1, 2), 2);
        e.yes("console", w.act(1, 1));
        e.is("consoled", w.who(1, 3), 1);
        e.yes("mourn", w.act(2, 1));
        e.is("mourned", w.who(1, 3), 0);
        e.yes("dig", w.act(3, 1));
        e.is("dug", w.of(3, 2, 2), 1);
        e.is("four can be undone", w.look(12), 4);
        e.says(5, "false if it can't be,");
        for (int who : new int[] {-1, 2, 10, BIG, SMALL}) {
            for (int what = 0; what < 4; what++) {
                e.leaves(0, "act", what, who);
            }
        }
        e.no("nobody", wood().act(0, 0));
        GriefWood nine = wood(9, 0, 0);
        nine.set(1, 0, 9);
        e.no("console at 9", nine.act(1, 0));
        e.is("nothing to undo", nine.look(12), 0);
        nine.set(1, 0, 0);
        e.no("mourn at 0", nine.act(2, 0));
        e.is("nothing to undo", nine.look(12), 0);
        e.says(5, "or another what.");
        for (int what : new int[] {-1, 4, BIG, SMALL}) {
            e.leaves(0, "act", what, 0);
        }
    }

    private void mornings() {
        e.says(6, "MORNINGS go by (1 .. 60): how much was found, by (a) (weight).");
        GriefWood w = wood("stops 1000;pays 0;", 50, 3, 3, 50, 6, 6);
        e.told(w, 2, "cell 3 2 truffle 5;cell 3 1 truffle 9;cell 6 6 truffle 7;", 3);
        e.told(w, 1, "on 0 seeker 0 lead 1;on 1 seeker 0 lead 1;", 2);
        w.act(3, 1);
        e.is("what was found by hand is not in it", w.mornings(60), 14);
        e.is("sixty", w.look(5), 60);
        e.is("one", w.mornings(1), 0);
        e.is("one", w.look(5), 61);
        GriefWood none = wood("stops 0;", 50, 3, 3);
        e.told(none, 2, "cell 3 2 truffle 5;", 1);
        e.told(none, 1, "on 0 seeker 0 lead 20;on 1 seeker 0 console 9;on 2 seeker 0 stand 0 0;", 3);
        e.is("who does not stop finds nothing", none.mornings(3), 0);
        GriefWood nothing = wood("stops 1000;", 50, 3, 3);
        e.told(nothing, 1, "on 0 seeker 0 lead 20;", 1);
        e.is("dug for nothing", nothing.mornings(3), 0);
        e.is("but he stopped", nothing.who(0, 5), 20);
        e.says(6, "NONE, and nothing is done, if one can't be,");
        for (int n : new int[] {0, 61, -1, BIG, SMALL}) {
            e.leaves(-1, "mornings", n);
        }
        e.says(6, "or MORNING would be above 9999.");
        GriefWood late = wood();
        for (int i = 0; i < 166; i++) {
            late.mornings(60);
        }
        e.is("9960 and 40", late.mornings(40), -1);
        e.is("nothing is done", late.look(5), 9960);
        e.is("9960 and 39", late.mornings(39), 0);
        e.is("9999", late.look(5), 9999);
        e.is("9999 and 1", late.mornings(1), -1);
        e.is("9999 and 60", late.mornings(60), -1);
        e.is("nothing is done", late.look(5), 9999);
        e.is("6 can be undone", late.look(12), 6);
    }

    private void of() {
        e.says(11, "Of a CELL what 0 OAK, 1 TRUFFLE, 2 DUG, 3 who are on it (a set),");
        GriefWood w = wood(9, 7, 7, 9, 0, 0, 9, 7, 7);
        e.told(w, 2, "cell 7 7 oak;cell 0 0 truffle 9;cell 7 0 oak;cell 7 0 truffle 3;", 4);
        w.act(3, 0);
        int[][] due = {{7, 7, 1, 0, 1, 5}, {0, 0, 0, 9, 0, 2}, {7, 0, 1, 3, 0, 0}, {0, 7, 0, 0, 0, 0}};
        for (int[] d : due) {
            for (int what = 0; what < 4; what++) {
                e.is("of(" + d[0] + ", " + d[1] + ", " + what + ")", w.of(d[0], d[1], what), d[2 + what]);
            }
        }
        e.says(11, "10 + i draws for SEEKER i (wherever he stands), 20 + i stops, 30 + i pays.");
        GriefWood ten = wood();
        for (int i = 0; i < 10; i++) {
            ten.seeker(10 * i, 0, 0);
        }
        Due.tell(ten, 0, "draws loss+x;stops 100+loss+y;pays 200+loss;");
        for (int i = 0; i < 10; i++) {
            e.is("draws for " + i, ten.of(7, 6, 10 + i), 10 * i + 7);
            e.is("stops for " + i, ten.of(7, 6, 20 + i), 106 + 10 * i);
            e.is("pays for " + i, ten.of(7, 6, 30 + i), 200 + 10 * i);
        }
        e.says(11, "NONE - 9999 if there is none such,");
        for (int v : new int[] {-1, 8, BIG, SMALL}) {
            for (int what : new int[] {0, 1, 2, 3, 10, 20, 30}) {
                e.leaves(-10000, "of", v, 0, what);
                e.leaves(-10000, "of", 0, v, what);
            }
        }
        for (int what : new int[] {12, 19, 22, 29, 32, 39}) {
            e.leaves(-10000, "of", 0, 0, what);
        }
        e.is("nobody", wood().of(0, 0, 10), -10000);
        e.says(11, "or another what.");
        for (int what : new int[] {-1, 4, 9, 40, 41, 100, -10, -20, 110, BIG, SMALL}) {
            e.leaves(-10000, "of", 0, 0, what);
            e.is("of ten", ten.of(0, 0, what), -10000);
        }
    }

    private void who() {
        e.says(12, "Of a SEEKER what 0 LOSS, 1 x, 2 y, 3 SOLACE, 4 FOUND, 5 STOPS,");
        GriefWood w = wood(9, 0, 0, 99, 7, 6);
        w.set(1, 1, 4);
        e.told(w, 2, "cell 7 6 truffle 8;", 1);
        w.act(3, 1);
        w.act(3, 1);
        int[] due = {99, 7, 6, 4, 8, 2};
        int[] other = {9, 0, 0, 0, 0, 0};
        for (int what = 0; what < 6; what++) {
            e.is("who(1, " + what + ")", w.who(1, what), due[what]);
            e.is("who(0, " + what + ")", w.who(0, what), other[what]);
        }
        e.says(12, "6 to which side he would go (0 up, 1 right, 2 down, 3 left).");
        String[] laws = {"draws 0-y;", "draws x;", "draws y;", "draws 0-x;"};
        for (int side = 0; side < 4; side++) {
            e.is("side", wood(laws[side], 9, 3, 3).who(0, 6), side);
        }
        e.says(12, "NONE if there is none such,");
        for (int who : new int[] {-1, 2, 10, BIG, SMALL}) {
            for (int what = 0; what <= 6; what++) {
                e.leaves(-1, "who", who, what);
            }
        }
        e.is("nobody", wood().who(0, 6), -1);
        e.says(12, "or another what.");
        for (int what : new int[] {-1, 7, BIG, SMALL}) {
            e.leaves(-1, "who", 0, what);
        }
    }

    private void book() {
        e.says(13, "Of line i of THE BOOK what 0 MORNING, 1 what, 2 who, 3 how much.");
        GriefWood w = wood(9, 0, 0, 9, 7, 7);
        w.mornings(3);
        w.act(3, 1);
        int[] due = {3, 1, 1, 63};
        for (int what = 0; what < 4; what++) {
            e.is("book(0, " + what + ")", w.book(0, what), due[what]);
        }
        e.says(13, "NONE - 1 if there is none such,");
        for (int i : new int[] {1, -1, 149, 150, BIG, SMALL}) {
            for (int what = 0; what < 4; what++) {
                e.is("book(" + i + ", " + what + ")", w.book(i, what), -2);
            }
        }
        e.is("an empty one", wood().book(0, 0), -2);
        w.undo();
        e.is("gone back", w.book(0, 0), -2);
        // It has four lines there.
        e.leaves(-2, "book", 4, 0);
        e.leaves(-2, "book", -1, 3);
        e.says(13, "or another what.");
        for (int what : new int[] {-1, 4, BIG, SMALL}) {
            e.leaves(-2, "book", 0, what);
        }
    }

    private void undo() {
        e.says(40, "UNDO: true; false if there is nothing.");
        GriefWood w = wood(9, 0, 0);
        e.no("nothing", w.undo());
        w.act(1, 0);
        e.yes("one", w.undo());
        e.no("nothing", w.undo());
        e.is("nothing", w.look(12), 0);
        GriefWood one = Edges.rich();
        GriefWood other = Edges.rich();
        one.state(3);
        other.state(3);
        e.no("nothing", one.undo());
        e.yes("and nothing is done",
            java.util.Arrays.equals(Edges.everything(one), Edges.everything(other)));
    }

    private void image() {
        e.says(41, "THE IMAGE is taken (true), or gone back to (false): true;");
        GriefWood w = wood(9, 0, 0);
        e.yes("taken", w.image(true));
        w.set(0, 0, 8);
        e.yes("gone back to", w.image(false));
        e.is("as it was", w.who(0, 0), 9);
        w.set(0, 0, 7);
        e.yes("taken anew", w.image(true));
        w.set(0, 0, 6);
        e.yes("gone back to", w.image(false));
        e.is("the latest", w.who(0, 0), 7);
        e.says(41, "false if there is none.");
        GriefWood none = wood(9, 0, 0);
        none.act(1, 0);
        e.no("none", none.image(false));
        e.is("nothing is done", none.who(0, 3), 1);
        e.is("nothing is done", none.look(12), 1);
        e.no("still none", none.image(false));
    }

    private void look() {
        e.says(42, "What 0 SEEKERS, 1 OAKS, 2 TRUFFLES (how many), 3 BASKET, 4 COINS, 5 MORNING, 6 lines of THE"
            + " BOOK, 7 STATE,"
            + " 8 lines of THE LAW, 9 of MORNINGS, 10 of WOOD (the latest one told), 11 of TABLES, 12 what can be"
            + " undone.");
        GriefWood w = wood("pays 20;pays 30;", 9, 0, 0, 9, 7, 7, 9, 1, 1);
        e.told(w, 2, "cell 0 0 truffle 9;cell 1 1 oak;cell 1 1 truffle 2;cell 2 2 oak;cell 3 3 oak;", 5);
        e.told(w, 1, "on 9 seeker 0 lead 1;on 9 seeker 0 lead 1;on 9 seeker 0 lead 1;", 3);
        e.told(w, 3, "on 9 table 1 pays 1;", 1);
        w.state(-7);
        w.act(3, 0);
        w.act(3, 1);
        w.mornings(2);
        int[] due = {3, 3, 1, 9, 20, 2, 2, -7, 2, 3, 5, 1, 4};
        for (int what = 0; what < due.length; what++) {
            e.is("look(" + what + ")", w.look(what), due[what]);
        }
        e.faulty(w, 2, "cell 0 0 oak;cell", 1, 17);
        e.is("not one with a fault", w.look(10), 5);
        e.told(w, 2, "", 0);
        e.is("the latest one, though it is empty", w.look(10), 0);
        e.is("the oaks stay", w.look(1), 3);
        e.says(42, "NONE - 99999 for another what.");
        for (int what : new int[] {-1, 13, 14, BIG, SMALL}) {
            e.leaves(-100000, "look", what);
        }
        e.says(42, "(STATE as it is.)");
        for (int s : new int[] {-100000, -1, SMALL, BIG}) {
            w.state(s);
            e.is("look(7)", w.look(7), s);
        }
    }
}
