/** Each promise of the document by hand: ordinary inputs, the edges that it names, wrong inputs. */
public final class PromiseTest {
    private static final Due DUE = new Due();
    private static final int BIG = Integer.MAX_VALUE;
    private static final int SMALL = Integer.MIN_VALUE;

    private PromiseTest() {
    }

    public static void main(String[] args) {
        newObject();
        state();
        seeker();
        set();
        act();
        actDraws();
        mornings();
        morningsEdges();
        tables();
        feedAndEnd();
        texts();
        lawFaults();
        lineFaults();
        fault();
        lawOrder();
        lawWords();
        lawHeld();
        of();
        who();
        book();
        goes();
        led();
        through();
        meeting();
        stands();
        shares();
        cut();
        pairs();
        eggs();
        season();
        hollow();
        three();
        pounds();
        rounds();
        halves();
        song();
        spades();
        game();
        undo();
        undoForgets();
        undoKeeps();
        image();
        look();
        DUE.close();
    }

    private static GriefWood wood(int... lossXY) {
        GriefWood w = new GriefWood();
        for (int i = 0; i + 2 < lossXY.length; i += 3) {
            w.seeker(lossXY[i], lossXY[i + 1], lossXY[i + 2]);
        }
        return w;
    }

    private static void is(String call, long got, long want) {
        DUE.is(call, got, want);
    }

    private static void told(GriefWood w, int k, String text, int lines) {
        is("text(" + k + ") " + text, Due.tell(w, k, text), lines);
    }

    private static void faulty(GriefWood w, int k, String text, int what, int place) {
        is("text(" + k + ") " + text, Due.tell(w, k, text), -1);
        is("fault(0) of " + text, w.fault(0), what);
        is("fault(1) of " + text, w.fault(1), place);
    }

    private static void newObject() {
        DUE.part("1 a new object");
        is("NONE", GriefWood.NONE, -1);
        GriefWood w = wood();
        for (int i = 0; i <= 12; i++) {
            is("look(" + i + ")", w.look(i), 0);
        }
        for (int cell = 0; cell < 64; cell++) {
            for (int what = 0; what < 4; what++) {
                is("of", w.of(cell % 8, cell / 8, what), 0);
            }
        }
        is("fault(0)", w.fault(0), 0);
        is("fault(1)", w.fault(1), -1);
        DUE.no("undo()", w.undo());
        DUE.no("image(false)", w.image(false));
        is("pairs(0)", w.pairs(0), 123);
    }

    private static void state() {
        DUE.part("2 state");
        GriefWood w = wood();
        is("state(7)", w.state(7), 0);
        is("state(-5)", w.state(SMALL), 7);
        is("look(7)", w.look(7), SMALL);
        is("state(0)", w.state(0), SMALL);
    }

    private static void seeker() {
        DUE.part("3 seeker");
        GriefWood w = wood();
        is("loss -1", w.seeker(-1, 0, 0), -1);
        is("loss 100", w.seeker(100, 0, 0), -1);
        is("x -1", w.seeker(0, -1, 0), -1);
        is("x 8", w.seeker(0, 8, 0), -1);
        is("y -1", w.seeker(0, 0, -1), -1);
        is("y 8", w.seeker(0, 0, 8), -1);
        is("wild", w.seeker(SMALL, BIG, SMALL), -1);
        for (int i = 0; i < 10; i++) {
            is("seeker", w.seeker(i == 0 ? 0 : 99, i % 8, 7 - i % 8), i);
        }
        is("the eleventh", w.seeker(1, 1, 1), -1);
        is("look(0)", w.look(0), 10);
        is("x of 9", w.who(9, 1), 1);
        is("y of 9", w.who(9, 2), 6);
    }

    private static void set() {
        DUE.part("4 set");
        GriefWood w = wood(5, 0, 0);
        DUE.yes("loss", w.set(0, 0, 99));
        is("loss", w.who(0, 0), 99);
        DUE.yes("no loss", w.set(0, 0, 0));
        is("no loss", w.who(0, 0), 0);
        DUE.no("loss 100", w.set(0, 0, 100));
        DUE.no("loss -1", w.set(0, 0, -1));
        DUE.yes("solace", w.set(1, 0, 9));
        is("solace", w.who(0, 3), 9);
        DUE.no("solace 10", w.set(1, 0, 10));
        DUE.no("solace -1", w.set(1, 0, -1));
        DUE.no("seeker 1", w.set(0, 1, 5));
        DUE.no("seeker -1", w.set(1, -1, 5));
        DUE.yes("basket, whoever", w.set(2, -77, 9999));
        is("basket", w.look(3), 9999);
        DUE.no("basket 10000", w.set(2, 0, 10000));
        DUE.no("basket -1", w.set(2, 0, -1));
        DUE.no("what 3", w.set(3, 0, 1));
        DUE.no("what -1", w.set(-1, 0, 1));
        is("basket stays", w.look(3), 9999);
    }

    private static void act() {
        DUE.part("5 act");
        GriefWood w = wood(0, 3, 3);
        DUE.no("what -1", w.act(-1, 0));
        DUE.no("what 4", w.act(4, 0));
        DUE.no("seeker 1", w.act(0, 1));
        DUE.no("seeker -1", w.act(3, -1));
        DUE.no("nothing to mourn", w.act(2, 0));
        for (int i = 0; i < 9; i++) {
            DUE.yes("console", w.act(1, 0));
        }
        DUE.no("console beyond 9", w.act(1, 0));
        is("solace", w.who(0, 3), 9);
        DUE.yes("mourn", w.act(2, 0));
        is("solace", w.who(0, 3), 8);
        DUE.yes("dig", w.act(3, 0));
        is("stops", w.who(0, 5), 1);
        is("dug", w.of(3, 3, 2), 1);
        is("no draw", w.look(7), 0);
        told(w, 2, "cell 3 3 truffle 7;", 1);
        DUE.yes("dig", w.act(3, 0));
        is("found", w.who(0, 4), 7);
        is("basket", w.look(3), 7);
        is("coins", w.look(4), 7);
        is("gone", w.of(3, 3, 1), 0);
        is("dug", w.of(3, 3, 2), 2);
        is("stops", w.who(0, 5), 2);
    }

    private static void actDraws() {
        DUE.part("5 act: a step");
        GriefWood w = wood(0, 3, 3);
        DUE.yes("lead", w.act(0, 0));
        is("all alike: up", w.who(0, 2), 2);
        is("stops 0: no draw", w.look(7), 0);
        told(w, 0, "stops 1000; draws 0-x;", 2);
        DUE.yes("lead", w.act(0, 0));
        is("to the left, below 0 as well", w.who(0, 1), 2);
        is("a draw", w.look(7), 1013904223);
        is("stopped", w.who(0, 5), 1);
        // The draw from 0 is 1013904223 >>> 8 = 3960563, of 1000: 563.
        told(w, 0, "stops 563;", 1);
        w.state(0);
        DUE.yes("lead", w.act(0, 0));
        is("563 is not below 563", w.who(0, 5), 1);
        told(w, 0, "stops 564;", 1);
        w.state(0);
        DUE.yes("lead", w.act(0, 0));
        is("563 is below 564", w.who(0, 5), 2);
        told(w, 0, "stops 1;", 1);
        w.state(0);
        DUE.yes("lead", w.act(0, 0));
        is("1 is above 0: a draw", w.look(7), 1013904223);
        is("but no stop", w.who(0, 5), 2);
        GriefWood corner = wood(0, 7, 0);
        told(corner, 0, "draws 0-10*y-x;", 1);
        corner.act(0, 0);
        is("left of the corner, for down draws less", corner.who(0, 1), 6);
        // A state that is below 0: its 24 highest bits count without sign.
        GriefWood high = wood(99, 0, 0);
        high.state(-1);
        high.act(0, 0);
        is("state", high.look(7), 1012239698);
        high.state(1013904223);
        high.act(0, 0);
        is("state", high.look(7), 1196435762);
    }

    private static void mornings() {
        DUE.part("6 mornings");
        GriefWood w = wood(50, 0, 0, 10, 7, 7);
        told(w, 0, "stops 1000; pays truffle*100+dug*10+basket+found+morning; draws 0 when dug>0; draws x;", 4);
        told(w, 2, "cell 1 0 truffle 3; cell 3 0 truffle 4; cell 2 0 oak;", 3);
        told(w, 1, "on 1 seeker 0 lead 3; on 0 seeker 1 console 5; on 0 seeker 1 console 5; on 1 seeker 1 mourn 2;"
            + "on 2 seeker 1 mourn 9; on 2 seeker 1 stand 4 2; on 1 seeker 0 console 1;", 7);
        is("morning 0", w.mornings(1), 0);
        is("9 at most", w.who(1, 3), 9);
        is("morning 1", w.mornings(1), 7);
        is("solace 2 less", w.who(1, 3), 7);
        is("x", w.who(0, 1), 3);
        is("stops", w.who(0, 5), 3);
        is("found", w.who(0, 4), 7);
        is("console behind the lead", w.who(0, 3), 1);
        // pays with dug one more, but basket, found and truffle as ahead: 300 + 10 + 1, then 400 + 10 + 3 + 3 + 1.
        is("coins", w.look(4), 311 + 417);
        is("morning 2", w.mornings(1), 0);
        is("0 at least", w.who(1, 3), 0);
        is("stand x", w.who(1, 1), 4);
        is("stand y", w.who(1, 2), 2);
        is("look(5)", w.look(5), 3);
        is("several", w.mornings(60), 0);
        is("look(5)", w.look(5), 63);
    }

    private static void morningsEdges() {
        DUE.part("6 mornings: edges");
        GriefWood w = wood(9, 0, 0);
        is("0", w.mornings(0), -1);
        is("61", w.mornings(61), -1);
        is("-1", w.mornings(-1), -1);
        is("wild", w.mornings(BIG), -1);
        is("look(5)", w.look(5), 0);
        for (int i = 0; i < 166; i++) {
            w.mornings(60);
        }
        is("look(5)", w.look(5), 9960);
        is("above 9999", w.mornings(40), -1);
        is("look(5)", w.look(5), 9960);
        is("up to 9999", w.mornings(39), 0);
        is("above 9999", w.mornings(1), -1);
        is("look(5)", w.look(5), 9999);
        is("goes for mornings all the same", w.goes(1, 2), 0);
        GriefWood late = wood(99, 0, 0);
        told(late, 1, "on 999 seeker 0 lead 1;", 1);
        for (int i = 0; i < 17; i++) {
            late.mornings(60);
        }
        is("on 999", late.who(0, 1), 1);
    }

    private static void tables() {
        DUE.part("6 mornings: tables");
        GriefWood w = wood();
        told(w, 3, "on 0 table 5 pays 10; on 1 table 1 pays 999; on 0 table 4 pays 3; on 0 table 2 pays 7;", 4);
        w.set(2, 0, 7);
        is("mornings", w.mornings(1), 0);
        is("basket 7 - 5 - 2", w.look(3), 0);
        is("coins", w.look(4), 17);
        is("book", w.look(6), 2);
        is("sold", w.book(0, 1), 2);
        is("to nobody", w.book(0, 2), -1);
        is("for", w.book(0, 3), 10);
        is("for", w.book(1, 3), 7);
        is("mornings", w.mornings(1), 0);
        is("nothing to sell", w.look(4), 17);
    }

    private static void feedAndEnd() {
        DUE.part("7 feed, 8 end");
        GriefWood w = wood();
        for (int i = 1; i <= 20; i++) {
            is("feed", w.feed(0x20202020, 0x20202020, 0x20202020, 0x20202020, 0x20202020), 20 * i);
        }
        is("full", w.feed(0, 0, 0, 0, 0), -1);
        DUE.no("end(401)", w.end(401));
        DUE.no("end(-1)", w.end(-1));
        DUE.yes("end(400)", w.end(400));
        DUE.yes("end(381)", w.end(381));
        is("381 and 20", w.feed(0, 0, 0, 0, 0), -1);
        DUE.yes("end(380)", w.end(380));
        DUE.no("end(381) then", w.end(381));
        is("380 and 20", w.feed(0, 0, 0, 0, 0), 400);
        is("text", w.text(0), -1);
        is("what can't stand", w.fault(1), 380);
        DUE.no("empty then", w.end(1));
        DUE.yes("end(0)", w.end(0));
        // "pays" comes with its highest byte first.
        is("feed", w.feed(0x70617973, 0x20373b20, 0x20202020, 0x20202020, 0x20202020), 20);
        is("text", w.text(0), 1);
    }

    private static void texts() {
        DUE.part("9 text");
        GriefWood w = wood(10, 0, 0);
        told(w, 0, "", 0);
        told(w, 0, " \n\n ", 0);
        told(w, 0, "pays 3;", 1);
        is("look(8)", w.look(8), 1);
        Due.tape(w, "pays 4;");
        is("no such one", w.text(4), -1);
        is("fault(0)", w.fault(0), 0);
        is("fault(1)", w.fault(1), -1);
        DUE.no("the tape is empty", w.end(1));
        is("no such one", w.text(-1), -1);
        faulty(w, 0, "pays 9; pays", 1, 12);
        is("the law stays", w.of(0, 0, 30), 3);
        is("look(8)", w.look(8), 1);
        DUE.no("the tape is empty", w.end(1));
        told(w, 2, "cell 1 2 oak;cell 1 2 truffle 4;cell 3 3 truffle 9;cell 3 3 truffle 2;", 4);
        is("oak", w.of(1, 2, 0), 1);
        is("truffle", w.of(1, 2, 1), 4);
        is("the later line", w.of(3, 3, 1), 2);
        is("x, then y", w.of(2, 1, 0), 0);
        told(w, 2, "cell 1 2 bare;", 1);
        is("bare", w.of(1, 2, 0), 0);
        is("the truffle is as it was", w.of(1, 2, 1), 4);
        is("all else is as it was", w.of(3, 3, 1), 2);
        is("look(10)", w.look(10), 1);
        faulty(w, 2, "cell 5 5 oak; cell 6 6 truffle;", 1, 30);
        is("nothing of it", w.of(5, 5, 0), 0);
        told(w, 1, "on 0 seeker 0 lead 20;on 999 seeker 0 mourn 9;", 2);
        told(w, 1, "on 0 seeker 0 stand 7 0;", 1);
        is("look(9)", w.look(9), 1);
        told(w, 3, "on 999 table 99 pays 999;", 1);
        is("look(11)", w.look(11), 1);
        told(w, 3, "", 0);
        is("look(11)", w.look(11), 0);
        told(w, 0, "draws1when1=1and x<y;", 1);
        told(w, 0, "pays 0009 / 0002;", 1);
        is("4", w.of(0, 0, 30), 4);
    }

    private static void lawFaults() {
        DUE.part("9 text, 10 fault: the law");
        GriefWood w = wood(10, 0, 0);
        faulty(w, 0, "draws", 1, 5);
        faulty(w, 0, "draws  \n", 1, 8);
        faulty(w, 0, "draws 1", 1, 7);
        faulty(w, 0, "Draws 1;", 1, 0);
        faulty(w, 0, "drawsx 1;", 1, 0);
        faulty(w, 0, "on 1;", 1, 0);
        faulty(w, 0, "draws 1 2;", 1, 8);
        faulty(w, 0, "draws 1;;", 1, 8);
        faulty(w, 0, "draws 1+;", 1, 8);
        faulty(w, 0, "draws -1;", 1, 6);
        faulty(w, 0, "draws (1);", 1, 6);
        faulty(w, 0, "draws 1/x;", 1, 8);
        faulty(w, 0, "draws 1/0000;", 2, 8);
        faulty(w, 0, "draws 1/00000;", 1, 8);
        faulty(w, 0, "draws 1*12345;", 1, 8);
        faulty(w, 0, "draws 1.5;", 1, 7);
        faulty(w, 0, "draws 1\t;", 1, 7);
        faulty(w, 0, "draws \u00ff;", 1, 6);
        faulty(w, 0, "draws 1 when;", 1, 12);
        faulty(w, 0, "draws 1 when 1;", 1, 14);
        faulty(w, 0, "draws 1 when 1=1=1;", 1, 16);
        faulty(w, 0, "draws 1 when 1=;", 1, 15);
        faulty(w, 0, "draws 1 when (1=1;", 1, 17);
        faulty(w, 0, "draws 1 when 1=1);", 1, 16);
        faulty(w, 0, "draws 1 when (1)=1;", 1, 15);
        faulty(w, 0, "draws 1 when ();", 1, 14);
        faulty(w, 0, "draws 1 when 1=1 and;", 1, 20);
        faulty(w, 0, "draws 1 when 1=1 not 1=1;", 1, 17);
        faulty(w, 0, "draws 1 when or 1=1;", 1, 13);
        faulty(w, 0, "draws 1 when 1=1 when 1=1;", 1, 17);
        faulty(w, 0, "draws 1 when not;", 1, 16);
        faulty(w, 0, "draws 1 when 1=1 or stops;", 1, 20);
        faulty(w, 0, "draws 1/0 when (", 2, 8);
        told(w, 0, "draws 1 when ((((((((1=1))))))));", 1);
        told(w, 0, "draws 1 when not not not not not not not not 1=1;", 1);
        told(w, 0, "draws 1 when not(not(not(not(1=1)))) and not(not(not(not(1=1))));", 1);
        told(w, 0, "draws 1 when not not not not 1=1 or not not not not not not not not 1=1;", 1);
        told(w, 0, "draws 1 when (((((((not 1=1 and not 2=2)))))));", 1);
        faulty(w, 0, "draws 1 when not(not(not(not(not 1=1))));", 3, 29);
        faulty(w, 0, "draws 1 when (((((((not (1=1))))))));", 3, 24);
        faulty(w, 0, "draws 1 when ((((((((1=1 and (2=2)))))))));", 3, 29);
        String sixteen = "pays 1;".repeat(16);
        told(w, 0, sixteen, 16);
        told(w, 0, sixteen + " \n", 16);
        faulty(w, 0, sixteen + " stops", 3, 113);
        faulty(w, 0, sixteen + " when", 1, 113);
        faulty(w, 0, sixteen + "pays 1;pays 1/0;", 3, 112);
        is("the law stays", w.look(8), 16);
    }

    private static void lineFaults() {
        DUE.part("9 text, 10 fault: lines");
        GriefWood w = wood(10, 0, 0, 10, 0, 0);
        faulty(w, 1, "on", 1, 2);
        faulty(w, 1, "on on", 1, 3);
        faulty(w, 1, "on 1000", 2, 3);
        faulty(w, 1, "on 10000", 1, 3);
        faulty(w, 1, "on 1 seeker 2 lead 0;", 2, 12);
        faulty(w, 1, "on 1 seeker 1 lead;", 1, 18);
        faulty(w, 1, "on 1 seeker 1 lead 20 1;", 1, 22);
        faulty(w, 1, "on 1 seeker 1 lead 21;", 2, 19);
        faulty(w, 1, "on 1 seeker 1 mourn 10;", 2, 20);
        faulty(w, 1, "on 1 seeker 1 console 0;", 2, 22);
        faulty(w, 1, "on 1 seeker 1 stand 1;", 1, 21);
        faulty(w, 1, "on 1 seeker 1 stand 1 8;", 2, 22);
        faulty(w, 1, "on 1 seeker 1 oak;", 1, 14);
        faulty(w, 1, "on 1 seeker 1 lead 1", 1, 20);
        faulty(w, 1, "on 1 table 1 pays 1;", 1, 5);
        faulty(new GriefWood(), 1, "on 1 seeker 0 lead 1;", 2, 12);
        told(w, 1, "on 1 seeker 0 lead 1;".repeat(16), 16);
        faulty(w, 1, "on 1 seeker 0 lead 1;".repeat(16) + "on", 3, 336);
        faulty(w, 1, "on 1 seeker 0 lead 1;".repeat(16) + "cell", 1, 336);
        faulty(w, 2, "cell 0 0 tree;", 1, 9);
        faulty(w, 2, "cell 0 0 truffle oak;", 1, 17);
        faulty(w, 2, "cell 0 0 oak", 1, 12);
        faulty(w, 2, "cell 0;", 1, 6);
        faulty(w, 2, "on 1 table 1 pays 1;", 1, 0);
        told(w, 2, "cell 0 0 oak;".repeat(16), 16);
        faulty(w, 2, "cell 0 0 oak;".repeat(17), 3, 208);
        faulty(w, 3, "on 1 table 1 pays 1000;", 2, 18);
        faulty(w, 3, "on 1 table 1 pays 0;", 2, 18);
        faulty(w, 3, "on 1 table 100 pays 0;", 2, 11);
        faulty(w, 3, "on 1 table 1 1;", 1, 13);
        faulty(w, 3, "on 1 seeker 1 lead 1;", 1, 5);
        told(w, 3, "on 1 table 1 pays 1;".repeat(16), 16);
        faulty(w, 3, "on 1 table 1 pays 1;".repeat(16) + "on 1000", 3, 320);
        is("lines stay", w.look(9) + w.look(10) + w.look(11), 48);
    }

    private static void fault() {
        DUE.part("10 fault");
        GriefWood w = wood();
        faulty(w, 0, "+", 1, 0);
        is("another what", w.fault(2), -1);
        is("another what", w.fault(-1), -1);
        is("it stays", w.fault(0), 1);
        told(w, 0, "", 0);
        is("0 then", w.fault(0), 0);
        is("NONE then", w.fault(1), -1);
        faulty(w, 0, "+", 1, 0);
        is("no such text", w.text(9), -1);
        is("0 then", w.fault(0), 0);
        is("NONE then", w.fault(1), -1);
    }

    private static int pays(GriefWood w, String expression) {
        Due.tell(w, 0, "pays " + expression + ";");
        return w.of(2, 3, 30);
    }

    private static int holds(GriefWood w, String condition) {
        Due.tell(w, 0, "pays 1 when " + condition + ";pays 0;");
        return w.of(2, 3, 30);
    }

    private static void lawOrder() {
        DUE.part("11 of: how the law is reckoned");
        GriefWood w = wood(10, 0, 0);
        is("1+2*3", pays(w, "1+2*3"), 7);
        is("9-3-2", pays(w, "9-3-2"), 4);
        is("9-3+2", pays(w, "9-3+2"), 8);
        is("7*3/2", pays(w, "7*3/2"), 10);
        is("7/2*3", pays(w, "7/2*3"), 9);
        is("100/5/3", pays(w, "100/5/3"), 6);
        is("10-8/3*2+1", pays(w, "10-8/3*2+1"), 7);
        is("3-2*4/3", pays(w, "3-2*4/3"), 1);
        Due.tell(w, 0, "draws 0*x-7/2; draws 1;");
        is("0-3", w.of(2, 3, 10), -3);
        Due.tell(w, 0, "draws loss*9999*9999*9999/1000;");
        is("ints wrap", w.of(2, 3, 10), Math.max(-9999, Math.min(9999, 10 * 9999 * 9999 * 9999 / 1000)));
        Due.tell(w, 2, "cell 2 3 truffle 9;");
        Due.tell(w, 0, "draws 7-9 when 0<1;");
        is("-2", w.of(2, 3, 10), -2);
        Due.tell(w, 0, "draws 9999*9999*9999/9999;");
        is("towards 0", w.of(2, 3, 10), Math.max(-9999, 9999 * 9999 * 9999 / 9999));
        is("or behind and", holds(w, "1=1 or 1=1 and 1=2"), 1);
        is("and ahead of or", holds(w, "1=2 and 1=1 or 1=1"), 1);
        is("and, and", holds(w, "1=1 and 1=1 and 1=2"), 0);
        is("brackets", holds(w, "1=2 and (1=1 or 1=1)"), 0);
        is("not binds close", holds(w, "not 1=2 or 1=1 and 1=2"), 1);
        is("not binds close", holds(w, "not 1=1 and 1=2"), 0);
        is("not of brackets", holds(w, "not (1=1 and 1=2)"), 1);
        is("not not", holds(w, "not not 1=1"), 1);
        is("not of brackets, then and", holds(w, "not (1=2) and not (1=1)"), 0);
        is("less", holds(w, "1<1") + holds(w, "1<2") * 2 + holds(w, "2<1") * 4, 2);
        is("same", holds(w, "1=1") + holds(w, "1=2") * 2 + holds(w, "2=1") * 4, 1);
        is("more", holds(w, "1>1") + holds(w, "1>2") * 2 + holds(w, "2>1") * 4, 4);
        is("sums on both sides", holds(w, "1+2*3=14/2 and 9-8<2-0"), 1);
        String deep = "1=2 or 1=1 and (".repeat(8);
        is("as deep as can be", holds(w, deep + "1=2 or 1=1 and 1+2*3=7" + ")".repeat(8)), 1);
        is("as deep as can be", holds(w, deep + "1=2 or 1=1 and 1+2*3=8" + ")".repeat(8)), 0);
        Due.tell(w, 0, "pays 1 when 1=2; pays 2 when 2=2; pays 3;");
        is("the first that is so", w.of(0, 0, 30), 2);
        Due.tell(w, 0, "stops 5; pays 3 when 1=2;");
        is("none is so", w.of(2, 3, 30), 9);
        is("another word", w.of(2, 3, 20), 5);
    }

    private static void lawWords() {
        DUE.part("11 of: the law's words");
        GriefWood w = wood(41, 5, 6);
        told(w, 2, "cell 2 3 oak; cell 2 3 truffle 8; cell 5 6 truffle 4;", 3);
        w.act(3, 0);
        w.act(3, 0);
        told(w, 1, "on 0 seeker 0 stand 2 3;", 1);
        w.mornings(3);
        w.set(1, 0, 6);
        told(w, 2, "cell 5 6 truffle 7;", 1);
        is("loss", pays(w, "loss"), 41);
        is("solace", pays(w, "solace"), 6);
        is("oak", pays(w, "oak"), 1);
        is("truffle", pays(w, "truffle"), 8);
        is("dug", pays(w, "dug"), 0);
        is("x", pays(w, "x"), 2);
        is("y", pays(w, "y"), 3);
        is("found", pays(w, "found"), 4);
        is("basket", pays(w, "basket"), 4);
        is("morning", pays(w, "morning"), 3);
        Due.tell(w, 0, "pays dug;");
        is("dug there", w.of(5, 6, 30), 2);
        w.set(2, 0, 9999);
        told(w, 0, "", 0);
        told(w, 1, "on 3 seeker 0 stand 5 6;", 1);
        w.mornings(1);
        w.act(3, 0);
        is("basket", w.look(3), 10006);
        is("held to 9999", pays(w, "basket/10"), 999);
        Due.tell(w, 0, "draws basket;");
        is("held to 9999", w.of(0, 0, 10), 9999);
        Due.tell(w, 0, "draws basket-9999;");
        is("held to 9999", w.of(0, 0, 10), 0);
    }

    private static void lawHeld() {
        DUE.part("11 of: the law's bounds, and without a line");
        GriefWood w = wood(99, 0, 0, 3, 1, 1);
        told(w, 2, "cell 2 3 truffle 9; cell 4 4 oak;", 2);
        w.set(1, 1, 9);
        is("draws", w.of(2, 3, 10), 891);
        is("draws of an oak", w.of(4, 4, 10), 5);
        is("draws with solace", w.of(2, 3, 11), 27 - 90);
        is("stops", w.of(2, 3, 20), 990);
        is("stops, 0 at least", w.of(2, 3, 21), 0);
        is("pays", w.of(2, 3, 30), 9);
        is("pays", w.of(4, 4, 30), 0);
        Due.tell(w, 0, "draws 9999+1;stops 1001;pays 1000;");
        is("draws", w.of(0, 0, 10), 9999);
        is("stops", w.of(0, 0, 20), 1000);
        is("pays", w.of(0, 0, 30), 999);
        Due.tell(w, 0, "draws 0-9999-1;stops 0-1;pays 0-1;");
        is("draws", w.of(0, 0, 10), -9999);
        is("stops", w.of(0, 0, 20), 0);
        is("pays", w.of(0, 0, 30), 0);
    }

    private static void of() {
        DUE.part("11 of");
        GriefWood w = wood(9, 2, 3, 9, 3, 2, 9, 2, 3);
        is("who are on it", w.of(2, 3, 3), 5);
        is("who are on it", w.of(3, 2, 3), 2);
        for (int what : new int[] {-1, 4, 9, 13, 19, 23, 33, 40, 41, 100, BIG, SMALL}) {
            is("of " + what, w.of(2, 3, what), -10000);
        }
        is("x", w.of(-1, 0, 0), -10000);
        is("x", w.of(8, 0, 10), -10000);
        is("y", w.of(0, -1, 3), -10000);
        is("y", w.of(0, 8, 0), -10000);
        is("wild", w.of(BIG, SMALL, 0), -10000);
        told(w, 0, "draws x; stops y; pays x+y;", 3);
        is("draws for 2", w.of(6, 7, 12), 6);
        is("stops for 2", w.of(6, 7, 22), 7);
        is("pays for 2", w.of(6, 7, 32), 13);
        for (int i = 0; i < 7; i++) {
            w.seeker(1, 2, 3);
        }
        is("all", w.of(2, 3, 3), 1021);
        is("draws for 9", w.of(6, 7, 19), 6);
        is("pays for 9", w.of(6, 7, 39), 13);
    }

    private static void who() {
        DUE.part("12 who");
        GriefWood w = wood(9, 2, 3);
        is("seeker 1", w.who(1, 0), -1);
        is("seeker -1", w.who(-1, 0), -1);
        is("what 7", w.who(0, 7), -1);
        is("what -1", w.who(0, -1), -1);
        is("loss", w.who(0, 0), 9);
        is("x", w.who(0, 1), 2);
        is("y", w.who(0, 2), 3);
        is("up", w.who(0, 6), 0);
        told(w, 0, "draws x;", 1);
        is("right", w.who(0, 6), 1);
        told(w, 0, "draws y;", 1);
        is("down", w.who(0, 6), 2);
        told(w, 0, "draws 0-x;", 1);
        is("left", w.who(0, 6), 3);
        told(w, 0, "draws x+y;", 1);
        is("right ahead of down", w.who(0, 6), 1);
        GriefWood edges = wood(1, 0, 0, 1, 7, 7, 1, 7, 0);
        is("0, 0: right", edges.who(0, 6), 1);
        is("7, 7: up", edges.who(1, 6), 0);
        is("7, 0: down", edges.who(2, 6), 2);
        told(edges, 0, "draws 0-9999;", 1);
        is("all far below 0", edges.who(2, 6), 2);
    }

    private static void book() {
        DUE.part("13 book");
        GriefWood w = wood(9, 2, 3, 8, 6, 1);
        told(w, 2, "cell 6 1 truffle 4;", 1);
        told(w, 3, "on 2 table 4 pays 50;", 1);
        w.act(3, 0);
        w.mornings(2);
        w.act(3, 1);
        w.mornings(1);
        int[][] lines = {{0, 1, 0, 26}, {2, 0, 1, 4}, {2, 2, -1, 50}};
        is("look(6)", w.look(6), 3);
        for (int i = 0; i < 3; i++) {
            for (int what = 0; what < 4; what++) {
                is("book(" + i + ", " + what + ")", w.book(i, what), lines[i][what]);
            }
        }
        is("line 3", w.book(3, 0), -2);
        is("line -1", w.book(-1, 0), -2);
        is("what 4", w.book(0, 4), -2);
        is("what -1", w.book(0, -1), -2);
        GriefWood full = wood(9, 2, 3);
        told(full, 3, "on 0 table 1 pays 50;", 1);
        for (int i = 0; i < 149; i++) {
            full.act(3, 0);
        }
        full.set(2, 0, 5);
        full.mornings(1);
        full.act(3, 0);
        is("150 lines", full.look(6), 150);
        is("the last", full.book(149, 1), 2);
        is("no more", full.book(150, 0), -2);
        is("but dug", full.of(2, 3, 2), 150);
        full.undo();
        is("still full", full.look(6), 150);
        full.undo();
        is("not full", full.look(6), 149);
        full.act(3, 0);
        is("full again", full.book(149, 1), 1);
    }

    private static void goes() {
        DUE.part("14 goes");
        GriefWood w = wood(9, 0, 0, 9, 7, 7);
        for (int[] wrong : new int[][] {{0, 0}, {61, 0}, {-1, 1}, {1, -1}, {1, 4}, {BIG, 0}}) {
            is("goes", w.goes(wrong[0], wrong[1]), -1);
        }
        told(w, 2, "cell 1 0 truffle 3; cell 2 0 truffle 4; cell 6 7 truffle 5; cell 4 4 truffle 1;", 4);
        told(w, 1, "on 0 seeker 0 lead 1; on 1 seeker 0 lead 1; on 2 seeker 1 lead 1;", 3);
        told(w, 3, "on 1 table 7 pays 100;", 1);
        told(w, 0, "stops 500; draws truffle;", 2);
        is("one: found", w.goes(1, 0), 3);
        is("one: coins", w.goes(1, 1), 3);
        is("two: coins", w.goes(2, 1), 107);
        is("two: stops", w.goes(2, 2), 2);
        is("three: found of all", w.goes(3, 0), 12);
        is("sixty: truffles", w.goes(60, 3), 1);
        is("nothing stays", w.look(2), 4);
        is("no morning", w.look(5), 0);
        is("no draw", w.look(7), 0);
        is("no book", w.look(6), 0);
        is("nothing to undo", w.look(12), 0);
        is("he stands", w.who(0, 1), 0);
        w.act(3, 0);
        is("what was counts, too", w.goes(1, 2), 2);
        is("the line of it stays", w.look(6), 1);
        told(w, 0, "stops 499; draws truffle;", 2);
        is("499 is too little", w.goes(3, 0), 0);
    }

    private static void led() {
        DUE.part("15 led");
        GriefWood w = wood(9, 0, 0, 9, 7, 7);
        for (int[] wrong : new int[][] {{2, 1, 0}, {-1, 1, 0}, {0, 0, 0}, {0, 61, 0}, {0, 1, 2}, {0, 1, -1}}) {
            is("led", w.led(wrong[0], wrong[1], wrong[2]), -1);
        }
        told(w, 2, "cell 1 0 truffle 3; cell 2 0 truffle 4;", 2);
        told(w, 0, "stops 500; draws truffle;", 2);
        is("one", w.led(0, 1, 0), 3);
        is("two", w.led(0, 2, 0), 7);
        is("where", w.led(0, 2, 1), 2);
        is("gone for the next steps", w.led(0, 60, 0), 7);
        is("where: 2 0, 3 0, then right to 7 0, then down, up, ..", w.led(0, 3, 1), 3);
        is("the other", w.led(1, 1, 1), 55);
        is("nothing stays", w.look(2), 2);
        is("found", w.who(0, 4), 0);
        told(w, 1, "on 0 seeker 0 stand 1 0;", 1);
        w.mornings(1);
        w.act(3, 0);
        is("found more", w.led(0, 1, 0), 4);
        told(w, 0, "stops 500; draws truffle when morning<2; draws y;", 3);
        told(w, 3, "on 1 table 1 pays 1;", 1);
        is("the morning stays", w.led(0, 60, 0), 4);
        told(w, 0, "stops 499;", 1);
        is("499", w.led(0, 5, 0), 0);
        // Along the upper edge to 7 0, then 6, 7, 6: there 7 has been dug twice, 5 once.
        told(w, 0, "stops 500; draws 0-dug when y=0; draws 0-5;", 3);
        is("what he digs in thought counts for his next steps", w.led(0, 10, 1), 5);
        is("and nothing of it stays", w.of(7, 0, 2), 0);
    }

    private static void through() {
        DUE.part("16 through");
        GriefWood w = wood();
        is("ways", w.through(1), 3432);
        told(w, 2, "cell 0 0 truffle 1; cell 7 7 truffle 2; cell 3 0 truffle 9; cell 0 3 truffle 9;", 4);
        is("both ends, too", w.through(0), 12);
        is("by 3 0: 330, by 0 3: 330", w.through(1), 660);
        told(w, 2, "cell 2 6 truffle 8; cell 1 6 truffle 8;", 2);
        is("weight", w.through(0), 28);
        is("0 3 to 1 6 in 4 ways, on to 7 7 in 6", w.through(1), 4 * 6);
        is("another what", w.through(2), -1);
        is("another what", w.through(-1), -1);
    }

    private static void meeting() {
        DUE.part("17 meeting");
        GriefWood w = wood();
        is("nobody", w.meeting(0), 0);
        is("nobody", w.meeting(1), -1);
        is("another what", w.meeting(2), -1);
        w.seeker(1, 5, 6);
        is("one", w.meeting(0), 0);
        is("one", w.meeting(1), 53);
        w.seeker(1, 1, 2);
        is("two", w.meeting(0), 8);
        is("the least number", w.meeting(1), 17);
        w.seeker(1, 2, 7);
        is("three", w.meeting(0), 9);
        is("the middle", w.meeting(1), 50);
        GriefWood corners = wood(1, 0, 0, 1, 0, 0, 1, 7, 7);
        is("the first cell", corners.meeting(1), 0);
        is("the first cell", corners.meeting(0), 14);
        is("another what", w.meeting(-1), -1);
    }

    private static void stands() {
        DUE.part("18 stands");
        GriefWood w = wood();
        is("none", w.stands(0) + w.stands(1) + w.stands(2), 0);
        told(w, 2, "cell 0 0 oak; cell 1 0 oak; cell 1 1 oak; cell 2 2 oak; cell 7 0 oak; cell 0 1 truffle 5;", 6);
        is("not across corners", w.stands(0), 3);
        is("the greatest", w.stands(1), 3);
        is("sides, the wood's end, too", w.stands(2), 16);
        told(w, 2, "cell 7 3 oak; cell 0 4 oak;", 2);
        is("not round the edge", w.stands(0), 5);
        told(w, 2, "cell 5 7 oak; cell 5 6 oak; cell 6 6 oak; cell 4 6 oak;", 4);
        is("to all four sides", w.stands(1), 4);
        is("another what", w.stands(3), -1);
        is("another what", w.stands(-1), -1);
        GriefWood all = wood();
        for (int y = 0; y < 8; y += 2) {
            StringBuilder s = new StringBuilder();
            for (int x = 0; x < 8; x++) {
                s.append("cell ").append(x).append(' ').append(y).append(" oak;");
                s.append("cell ").append(x).append(' ').append(y + 1).append(" oak;");
            }
            told(all, 2, s.toString(), 16);
        }
        is("one", all.stands(0), 1);
        is("of 64", all.stands(1), 64);
        is("with 32 sides", all.stands(2), 32);
    }

    private static void shares() {
        DUE.part("19 finds, 20 share");
        GriefWood w = wood();
        DUE.no("set 0", w.finds(0, 1));
        DUE.no("set 8", w.finds(8, 1));
        DUE.no("v -1", w.finds(1, -1));
        DUE.no("v 100", w.finds(1, 100));
        is("at first", w.share(2, 0), 0);
        is("at first", w.share(2, 1), 1);
        DUE.yes("finds", w.finds(7, 1));
        is("a third", w.share(1, 0), 1);
        is("a third", w.share(1, 1), 3);
        DUE.yes("finds", w.finds(6, 99));
        is("0: 2 (1 - 99) by 6", w.share(0, 0), -98);
        is("0", w.share(0, 1), 3);
        is("1: 99 + 2 by 6", w.share(1, 0), 101);
        is("1", w.share(1, 1), 6);
        DUE.yes("finds", w.finds(4, 99));
        DUE.yes("finds", w.finds(1, 0));
        is("2: 198 + 0 + 99 + 2", w.share(2, 0), 299);
        is("2", w.share(2, 1), 6);
        is("i 3", w.share(3, 0), -10000);
        is("i -1", w.share(-1, 0), -10000);
        is("what 2", w.share(0, 2), -10000);
        is("what -1", w.share(0, -1), -10000);
    }

    private static void cut() {
        DUE.part("21 part, 22 cut");
        GriefWood w = wood();
        is("0", w.part(0), -1);
        is("100", w.part(100), -1);
        is("-2", w.part(-2), -1);
        is("none told", w.cut(12, 0), 0);
        is("none told", w.cut(12, 1), 1);
        is("k 13", w.cut(13, 0), -1);
        is("k 0", w.cut(0, 1), -1);
        is("what 2", w.cut(1, 2), -1);
        is("what -1", w.cut(1, -1), -1);
        for (int i = 1; i <= 12; i++) {
            is("part", w.part(i == 12 ? 99 : 9), i);
        }
        is("the thirteenth", w.part(1), -1);
        is("one part", w.cut(1, 0), 198);
        is("one part", w.cut(1, 1), 1);
        is("two", w.cut(2, 0), 99);
        is("two", w.cut(2, 1), 1);
        is("all", w.cut(12, 0), 99);
        is("all: 11 nines in any way", w.cut(12, 1), 1024);
        is("none is then", w.part(-1), 0);
        is("none told", w.cut(3, 1), 1);
        for (int v : new int[] {2, 2, 2, 2}) {
            w.part(v);
        }
        is("in three at most", w.cut(3, 0), 4);
        is("2 + 2, 1 + 1 + 2, 1 + 2 + 1, 2 + 1 + 1", w.cut(3, 1), 4);
    }

    private static void pairs() {
        DUE.part("23 wish, 24 pairs");
        GriefWood w = wood();
        for (int row : new int[] {-123, 0, 122, 124, 1230123, 3211, 4123, 1111, BIG, SMALL}) {
            DUE.no("row " + row, w.wish(0, 0, row));
        }
        DUE.no("which 2", w.wish(2, 0, 123));
        DUE.no("which -1", w.wish(-1, 0, 123));
        DUE.no("i 4", w.wish(0, 4, 123));
        DUE.no("i -1", w.wish(1, -1, 123));
        is("all alike", w.pairs(0), 123);
        is("all alike", w.pairs(1), 1);
        int[] seekers = {123, 1032, 2301, 3210};
        int[] boys = {3210, 2301, 1032, 123};
        for (int i = 0; i < 4; i++) {
            DUE.yes("wish", w.wish(0, i, seekers[i]));
            DUE.yes("wish", w.wish(1, i, boys[i]));
        }
        is("each the dearest", w.pairs(0), 123);
        is("ten ways", w.pairs(1), 10);
        w.wish(1, 0, 1023);
        is("then", w.pairs(0), 123);
        GriefWood one = wood();
        one.wish(1, 0, 3210);
        one.wish(1, 1, 3210);
        is("boy 0 keeps 3, boy 1 keeps 2; boys 2, 3 keep 0, 1", one.pairs(0), 2310);
        is("what 2", w.pairs(2), -1);
        is("what -1", w.pairs(-1), -1);
    }

    private static void eggs() {
        DUE.part("25 eggs");
        GriefWood w = wood();
        int[][] due = {{0, 8, 0, -1}, {1, 8, 1, 1}, {2, 1, 2, 1}, {2, 2, 2, 1}, {3, 2, 2, 2}, {500, 1, 500, 1},
            {500, 8, 9, 245}, {500, 2, 32, 4}, {6, 2, 3, 3}, {7, 3, 3, 4}};
        for (int[] d : due) {
            is("fewest of " + d[0] + ", " + d[1], w.eggs(d[0], d[1], 0), d[2]);
            is("first of " + d[0] + ", " + d[1], w.eggs(d[0], d[1], 1), d[3]);
        }
        for (int[] d : new int[][] {{-1, 1, 0}, {501, 1, 0}, {5, 0, 0}, {5, 9, 0}, {5, 1, 2}, {5, 1, -1}, {0, 0, 0}}) {
            is("wrong", w.eggs(d[0], d[1], d[2]), -1);
        }
    }

    private static void season() {
        DUE.part("26 season");
        GriefWood w = wood();
        is("n 0", w.season(1, 1, 0, 0), 1);
        is("n 0", w.season(1, 1, 0, 1), 1);
        is("none", w.season(2, 3, 4, 0), 0);
        is("none", w.season(2, 3, 4, 1), 1);
        is("4/5 by 5", w.season(45, 34, 1, 0), 4);
        is("lowest terms", w.season(24, 11, 1, 1), 2);
        is("two", w.season(45, 34, 2, 0), 79);
        is("two", w.season(45, 34, 2, 1), 100);
        is("five", w.season(55, 15, 5, 0), 1);
        for (int bad : new int[] {0, 10, 21, 16, 61, 66, -12, 112, 6, BIG, SMALL}) {
            is("ab " + bad, w.season(bad, 11, 1, 0), -1);
            is("cd " + bad, w.season(11, bad, 0, 0), -1);
        }
        is("n 6", w.season(12, 12, 6, 0), -1);
        is("n -1", w.season(12, 12, -1, 0), -1);
        is("what 2", w.season(12, 12, 1, 2), -1);
        is("what -1", w.season(12, 12, 1, -1), -1);
    }

    private static void hollow() {
        DUE.part("27 height, 28 hollow");
        GriefWood w = wood();
        is("100", w.height(100), -1);
        is("-2", w.height(-2), -1);
        for (int what = 0; what < 5; what++) {
            is("none told", w.hollow(what), 0);
        }
        int[] row = {0, 5, 1, 5, 5, 2, 3, 0, 4, 4, 9, 0};
        for (int i = 0; i < 12; i++) {
            is("height", w.height(row[i]), i + 1);
        }
        is("the thirteenth", w.height(1), -1);
        is("rain: 4, then 3 2 5 1 1", w.hollow(0), 16);
        is("pools", w.hollow(1), 2);
        is("from the left: 0 5 9", w.hollow(2), 3);
        is("from the right: 0 9", w.hollow(3), 2);
        is("couples: 11 side by side and 5_5, 5_9 over the hollow, 5_3, 3_4, 5_4 ", w.hollow(4), 16);
        is("what 5", w.hollow(5), -1);
        is("what -1", w.hollow(-1), -1);
        is("none is then", w.height(-1), 0);
        w.height(0);
        w.height(0);
        is("alike: no rain", w.hollow(0), 0);
        is("alike: one from the left", w.hollow(2), 1);
        is("alike: a couple", w.hollow(4), 1);
        is("99", w.height(99), 3);
    }

    private static void three() {
        DUE.part("29 third, 30 three");
        GriefWood w = wood();
        is("0", w.third(0), -1);
        is("61", w.third(61), -1);
        is("-2", w.third(-2), -1);
        is("none told", w.three(0), 1);
        is("none told", w.three(1), 1);
        for (int i = 1; i <= 9; i++) {
            is("third", w.third(60), i);
        }
        is("the tenth", w.third(1), -1);
        is("nine alike", w.three(0), 1);
        is("9! by 3! 3! 3!", w.three(1), 1680);
        is("none is then", w.third(-1), 0);
        for (int v : new int[] {1, 2, 3}) {
            w.third(v);
        }
        is("6 by three, but 3", w.three(0), 0);
        is("no way", w.three(1), 0);
        w.third(3);
        is("1 2, 3, 3", w.three(1), 6);
        is("1 2, 3, 3", w.three(0), 1);
        is("what 2", w.three(2), -1);
        is("what -1", w.three(-1), -1);
    }

    private static void pounds() {
        DUE.part("31 sum, 32 pounds");
        GriefWood w = wood();
        for (int[] s : new int[][] {{100, 0, 0}, {-2, 0, 0}, {0, 16, 0}, {0, -1, 0}, {0, 0, 16}, {0, 0, -1}}) {
            is("wrong", w.sum(s[0], s[1], s[2]), -1);
        }
        for (int i = 1; i <= 8; i++) {
            is("sum", w.sum(99, 15, 15), i);
        }
        is("the ninth", w.sum(0, 0, 0), -1);
        is("pounds", w.pounds(0), 799);
        is("ounces", w.pounds(1), 15);
        is("drams", w.pounds(2), 8);
        is("what 3", w.pounds(3), -1);
        is("what -1", w.pounds(-1), -1);
        is("none is then", w.sum(-1, 77, -5), 0);
        is("pounds", w.pounds(0) + w.pounds(1) + w.pounds(2), 0);
        is("one again", w.sum(0, 1, 2), 1);
        is("ounces", w.pounds(1), 1);
    }

    private static void rounds() {
        DUE.part("33 round, 34 rounds");
        GriefWood w = wood();
        int[] four = {0, 1, 2, 3, 103, 203, 202, 201, 200, 100, 101, 102};
        for (int k = 0; k < 12; k++) {
            is("round(4, 3, " + k + ")", w.round(4, 3, k), four[k]);
            is("rounds", w.rounds(4, 3, four[k] % 100, four[k] / 100), k);
        }
        is("the last of 20 by 20", w.round(20, 20, 399), 1009);
        is("the last of 2 by 5", w.round(2, 5, 9), 100);
        is("one", w.round(1, 1, 0), 0);
        is("one", w.rounds(1, 1, 0, 0), 0);
        is("the last of 20 by 20", w.rounds(20, 20, 9, 10), 399);
        for (int[] s : new int[][] {{0, 1, 0}, {21, 1, 0}, {1, 0, 0}, {1, 21, 0}, {2, 2, 4}, {2, 2, -1}}) {
            is("wrong", w.round(s[0], s[1], s[2]), -1);
        }
        for (int[] s : new int[][] {{0, 1, 0, 0}, {21, 1, 0, 0}, {1, 0, 0, 0}, {1, 21, 0, 0}, {2, 3, 2, 0},
            {2, 3, 0, 3}, {2, 2, -1, 0}, {2, 2, 0, -1}}) {
            is("wrong", w.rounds(s[0], s[1], s[2], s[3]), -1);
        }
    }

    private static void halves() {
        DUE.part("35 halves");
        GriefWood w = wood();
        int[] seven = {3, 3, 3, 3, 3, 3, 2};
        for (int d = 1; d <= 7; d++) {
            is("halves(7, " + d + ")", w.halves(7, d), seven[d - 1]);
        }
        is("at most", w.halves(7, -1), 3);
        is("at most", w.halves(8, -1), 3);
        is("at most", w.halves(9, -1), 4);
        is("least", w.halves(9, 1), 4);
        is("most", w.halves(9, 9), 3);
        is("1000", w.halves(1000, 1000), 9);
        for (int[] s : new int[][] {{0, -1}, {1001, 1}, {1001, -1}, {5, 0}, {5, 6}, {5, -2}, {-1, -1}}) {
            is("wrong", w.halves(s[0], s[1]), -1);
        }
    }

    private static void song() {
        DUE.part("36 song");
        GriefWood w = wood();
        is("verse 4", w.song(4, 0), 19);
        is("0 .. 1", w.song(1, 1), 3);
        is("0 .. 0", w.song(0, 1), 1);
        is("0 .. 4", w.song(4, 1), 37);
        is("verse 30", w.song(30, 0), 7049123);
        is("31", w.song(31, 0), -1);
        is("-1", w.song(-1, 0), -1);
        is("what 2", w.song(3, 2), -1);
        is("what -1", w.song(3, -1), -1);
    }

    private static void spades() {
        DUE.part("37 spade, 38 spades");
        GriefWood w = wood();
        is("none told", w.spades(0), 0);
        is("none told", w.spades(1), 0);
        is("1024", w.spade(1024), -1);
        is("-2", w.spade(-2), -1);
        is("spade", w.spade(1023), 1);
        is("one of them", w.spades(1), 1);
        is("spade", w.spade(513), 2);
        is("left", w.spades(0), 510);
        is("not one of them", w.spades(1), 0);
        for (int i = 3; i <= 10; i++) {
            is("spade", w.spade(510), i);
        }
        is("the eleventh", w.spade(0), -1);
        is("left", w.spades(0), 510);
        is("one of them", w.spades(1), 1);
        is("what 2", w.spades(2), -1);
        is("what -1", w.spades(-1), -1);
        is("none is then", w.spade(-1), 0);
        is("spade", w.spade(5), 1);
        is("spade", w.spade(5), 2);
        is("0 is left", w.spades(0), 0);
        is("and not told", w.spades(1), 0);
        is("spade", w.spade(0), 3);
        is("and told", w.spades(1), 1);
    }

    private static void game() {
        DUE.part("39 game");
        GriefWood w = wood();
        int[][] due = {{11, -1}, {10, -1}, {100, -1}, {12, 1}, {15, 1}, {121, -1}, {122, 11}, {111, 10}, {1111, 10},
            {131, 2}, {132, -1}, {143, -1}, {1311, -1}, {1333, 11}, {155555, 11}, {1500, 1}};
        for (int[] d : due) {
            is("game(" + d[0] + ")", w.game(d[0]), d[1]);
        }
        for (int bad : new int[] {1, 0, -1, 5, 21, 16, 112, 1555555, 1023, 55, BIG, SMALL}) {
            is("game(" + bad + ")", w.game(bad), -1);
        }
    }

    private static void undo() {
        DUE.part("40 undo");
        GriefWood w = wood(50, 0, 0);
        told(w, 2, "cell 1 0 truffle 3;", 1);
        told(w, 1, "on 0 seeker 0 lead 2; on 1 seeker 0 stand 5 5;", 2);
        told(w, 3, "on 0 table 3 pays 8;", 1);
        told(w, 0, "stops 1000;draws truffle;", 2);
        w.mornings(2);
        w.act(3, 0);
        is("kept", w.look(12), 3);
        DUE.yes("the dig", w.undo());
        is("dug", w.of(5, 5, 2), 0);
        is("stops", w.who(0, 5), 2);
        is("book", w.look(6), 3);
        DUE.yes("morning 1", w.undo());
        is("morning", w.look(5), 1);
        is("x", w.who(0, 1), 2);
        DUE.yes("morning 0", w.undo());
        is("x", w.who(0, 1), 0);
        is("truffle", w.of(1, 0, 1), 3);
        is("state", w.look(7), 0);
        is("coins", w.look(4), 0);
        is("basket", w.look(3), 0);
        is("book", w.look(6), 0);
        is("found", w.who(0, 4), 0);
        is("morning", w.look(5), 0);
        DUE.no("nothing", w.undo());
        is("it goes on", w.mornings(1), 3);
        w.mornings(60);
        is("6 are kept", w.look(12), 6);
        for (int i = 0; i < 6; i++) {
            DUE.yes("undo", w.undo());
        }
        DUE.no("no more", w.undo());
        is("55", w.look(5), 55);
        w.act(0, 0);
        w.act(1, 0);
        w.act(2, 0);
        w.undo();
        is("not mourned", w.who(0, 3), 1);
        w.act(3, 0);
        w.undo();
        w.undo();
        is("not consoled", w.who(0, 3), 0);
        is("one more", w.look(12), 1);
    }

    private static void undoForgets() {
        DUE.part("40 undo: what forgets");
        for (int kind = 0; kind < 8; kind++) {
            GriefWood w = wood(50, 0, 0);
            w.image(true);
            w.act(1, 0);
            switch (kind) {
                case 0: w.state(0); break;
                case 1: w.seeker(1, 1, 1); break;
                case 2: w.set(1, 0, 1); break;
                case 3: w.set(2, 0, 0); break;
                case 4: w.text(1); break;
                case 5: w.text(2); break;
                case 6: w.text(3); break;
                default: w.image(false); break;
            }
            is("kind " + kind, w.look(12), 0);
            DUE.no("kind " + kind, w.undo());
        }
    }

    private static void undoKeeps() {
        DUE.part("40 undo: what does not");
        GriefWood w = wood(50, 0, 0);
        w.act(1, 0);
        w.act(3, 0);
        w.feed(1, 2, 3, 4, 5);
        w.end(0);
        w.image(true);
        w.text(0);
        Due.tell(w, 0, "stops 7;");
        Due.tell(w, 1, "on 0;");
        Due.tell(w, 2, "oak;");
        Due.tell(w, 3, "on 0 table;");
        w.text(4);
        w.set(0, 1, 5);
        w.set(0, 0, 100);
        w.seeker(100, 0, 0);
        w.act(2, 1);
        w.mornings(0);
        w.finds(1, 5);
        w.part(3);
        w.wish(0, 0, 1023);
        w.height(3);
        w.third(3);
        w.sum(1, 2, 3);
        w.spade(3);
        w.goes(3, 0);
        w.led(0, 3, 0);
        new GriefWood().image(false);
        is("two are kept", w.look(12), 2);
        DUE.yes("undo", w.undo());
        DUE.yes("undo", w.undo());
        is("solace", w.who(0, 3), 0);
        is("the law stays", w.of(0, 0, 20), 7);
        is("what is told for thought stays", w.spades(0) + w.pounds(1) + w.cut(1, 0) + w.share(0, 0), 3 + 2 + 3 + 5);
    }

    private static void image() {
        DUE.part("41 image");
        GriefWood w = wood(50, 0, 0);
        told(w, 2, "cell 1 0 truffle 3; cell 4 4 oak;", 2);
        told(w, 1, "on 0 seeker 0 lead 2;", 1);
        told(w, 3, "on 0 table 3 pays 8; on 1 table 3 pays 8;", 2);
        told(w, 0, "stops 1000;draws truffle;", 2);
        w.finds(1, 6);
        w.part(4);
        w.wish(0, 0, 1023);
        w.height(5);
        w.third(6);
        w.sum(7, 0, 0);
        w.spade(8);
        DUE.no("none", w.image(false));
        w.mornings(1);
        DUE.yes("taken", w.image(true));
        is("still to be undone", w.look(12), 1);
        for (int time = 0; time < 2; time++) {
            w.undo();
            w.act(3, 0);
            w.act(3, 0);
            w.mornings(5);
            w.seeker(1, 1, 1);
            w.set(0, 0, 7);
            w.set(2, 0, 77);
            w.state(99);
            w.text(0);
            w.text(1);
            w.text(3);
            told(w, 2, "cell 4 4 bare; cell 5 5 truffle 5; cell 6 6 oak;", 3);
            w.finds(1, 0);
            w.part(-1);
            w.wish(0, 0, 3210);
            w.height(-1);
            w.third(-1);
            w.sum(-1, 0, 0);
            w.spade(-1);
            faulty(w, 0, "draws", 1, 5);
            w.act(1, 0);
            w.feed(0x20202020, 0x20202020, 0x20202020, 0x20202020, 0x20202020);
            DUE.yes("gone back to", w.image(false));
            int[] due = {1, 1, 0, 0, 11, 1, 3, w.look(7), 2, 1, 2, 2, 0};
            for (int i = 0; i < due.length; i++) {
                is("look(" + i + ")", w.look(i), due[i]);
            }
            is("state", w.state(w.look(7)), 1196435762);
            is("book", w.book(0, 1), 0);
            is("book", w.book(1, 3), 2);
            is("book", w.book(2, 3), 8);
            is("loss", w.who(0, 0), 50);
            is("x", w.who(0, 1), 2);
            is("dug", w.of(1, 0, 2), 1);
            is("oak", w.of(4, 4, 0), 1);
            is("truffle", w.of(5, 5, 1), 0);
            is("the law", w.of(5, 5, 20), 1000);
            is("shares", w.share(0, 0), 2 * 6 / 6);
            is("cut", w.cut(1, 0), 4);
            is("pairs", w.pairs(0), 1023);
            is("hollow", w.hollow(2), 1);
            is("three", w.three(0), 0);
            is("pounds", w.pounds(0), 7);
            is("spades", w.spades(0), 8);
            is("fault() stays", w.fault(1), 5);
            DUE.yes("the tape stays", w.end(20));
            w.end(0);
            DUE.no("nothing to undo", w.undo());
        }
        w.set(0, 0, 8);
        DUE.yes("taken anew", w.image(true));
        w.set(0, 0, 9);
        w.image(false);
        is("the latest", w.who(0, 0), 8);
    }

    private static void look() {
        DUE.part("42 look");
        GriefWood w = wood(50, 0, 0, 1, 1, 1);
        for (int what : new int[] {-1, 13, 14, 99, BIG, SMALL}) {
            is("look(" + what + ")", w.look(what), -100000);
        }
        told(w, 2, "cell 1 0 truffle 3; cell 4 4 oak; cell 4 4 truffle 2; cell 5 5 oak; cell 6 6 oak;", 5);
        told(w, 1, "on 5 seeker 0 lead 2;", 1);
        told(w, 3, "on 5 table 3 pays 8; on 5 table 3 pays 8;", 2);
        told(w, 0, "stops 1000;draws truffle;pays 4;pays 5;", 4);
        w.state(-3);
        w.set(2, 0, 17);
        w.mornings(3);
        w.act(3, 0);
        int[] due = {2, 3, 2, 17, 0, 3, 1, -3, 4, 1, 5, 2, 4};
        for (int i = 0; i < due.length; i++) {
            is("look(" + i + ")", w.look(i), due[i]);
        }
        told(w, 2, "cell 4 4 bare;", 1);
        is("the latest wood", w.look(10), 1);
        is("oaks", w.look(1), 2);
    }
}
