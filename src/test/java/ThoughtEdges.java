/** The document's sentences on what is only thought: the edges that each names. */
final class ThoughtEdges {
    private static final int BIG = Integer.MAX_VALUE;
    private static final int SMALL = Integer.MIN_VALUE;
    private static final int TERMS = Edges.TERMS;

    private final Edges e;

    ThoughtEdges(Edges e) {
        this.e = e;
    }

    void test() {
        inThought();
        goes();
        led();
        through();
        meeting();
        stands();
        shares();
        parts();
        cut();
        wishes();
        pairs();
        eggs();
        seasons();
        heights();
        hollow();
        seen();
        thirds();
        three();
        sums();
        round();
        rounds();
        halves();
        song();
        spades();
        game();
    }

    private static GriefWood wood(int... lossXY) {
        GriefWood w = new GriefWood();
        for (int i = 0; i + 2 < lossXY.length; i += 3) {
            w.seeker(lossXY[i], lossXY[i + 1], lossXY[i + 2]);
        }
        return w;
    }

    /** Another what than 0 .. most of a call whose last argument it is. */
    private void anotherWhat(long answer, int most, String name, int... args) {
        int[] a = java.util.Arrays.copyOf(args, args.length + 1);
        for (int what : new int[] {-1, most + 1, BIG, SMALL}) {
            a[args.length] = what;
            e.leaves(answer, name, a.clone());
        }
    }

    private void inThought() {
        e.says(TERMS, "==== 4. IN THOUGHT (nothing of it stays; no DRAWS: one stops, if stops is 500 at least).");
        String[] names = {"goes", "goes", "led", "led", "through", "meeting", "stands", "share", "cut", "pairs", "eggs",
            "season", "hollow", "three", "pounds", "round", "rounds", "halves", "song", "spades", "game", "who", "of"};
        int[][] args = {{60, 0}, {3, 3}, {0, 60, 0}, {1, 1, 1}, {1}, {1}, {1}, {1, 1}, {2, 1}, {1}, {500, 8, 1},
            {45, 34, 5, 1}, {4}, {1}, {1}, {20, 20, 399}, {20, 20, 9, 9}, {1000, 1}, {30, 1}, {1}, {155555}, {0, 6},
            {2, 2, 10}};
        for (int i = 0; i < names.length; i++) {
            e.still(names[i], args[i]);
        }
        int[][] due = {{0, 0}, {1, 0}, {499, 0}, {500, 3}, {501, 3}, {1000, 3}};
        for (int[] d : due) {
            // From 0 the next draw is 563, from 1013904223 it is 592: neither is asked.
            for (int state : new int[] {0, 1013904223, -1}) {
                GriefWood w = wood(9, 3, 3);
                w.state(state);
                Due.tell(w, 0, "stops " + d[0] + ";");
                Due.tell(w, 1, "on 0 seeker 0 lead 3;");
                e.is("stops by " + d[0], w.goes(1, 2), d[1]);
                e.is("the state stays", w.look(7), state);
                Due.tell(w, 2, "cell 3 2 truffle 5;");
                e.is("found by " + d[0], w.led(0, 1, 0), d[1] == 0 ? 0 : 5);
                e.is("the state stays", w.look(7), state);
            }
        }
    }

    private void goes() {
        e.says(TERMS, "GOES for n (1 .. 60) MORNINGS: FOUND of all, COINS, STOPS of all, TRUFFLES (how many) in THE"
            + " WOOD then.");
        GriefWood w = wood(9, 0, 0, 9, 7, 7);
        e.told(w, 2, "cell 0 0 truffle 9;cell 1 0 truffle 3;cell 6 7 truffle 5;cell 4 4 truffle 1;", 4);
        e.told(w, 0, "stops 500;draws truffle;pays 10;", 3);
        e.told(w, 1, "on 0 seeker 0 lead 1;on 59 seeker 1 lead 1;on 60 seeker 1 lead 20;", 3);
        e.told(w, 3, "on 0 table 12 pays 100;on 59 table 5 pays 200;", 2);
        w.act(3, 0);
        int[][] due = {{1, 12, 120, 2, 2}, {2, 12, 120, 2, 2}, {59, 12, 120, 2, 2}, {60, 17, 330, 3, 1}};
        for (int[] d : due) {
            for (int what = 0; what < 4; what++) {
                e.is("goes(" + d[0] + ", " + what + ")", w.goes(d[0], what), d[1 + what]);
            }
        }
        w.mornings(1);
        e.is("from the morning that is", w.goes(1, 0), w.who(0, 4) + w.who(1, 4));
        GriefWood nobody = wood();
        for (int what = 0; what < 4; what++) {
            e.is("nobody", nobody.goes(60, what), 0);
        }
        e.says(14, "GOES what 0 FOUND, 1 COINS, 2 STOPS, 3 TRUFFLES.");
        GriefWood told = wood(9, 0, 0);
        e.told(told, 2, "cell 0 0 truffle 9;cell 5 5 truffle 1;cell 6 6 truffle 1;", 3);
        e.told(told, 0, "pays 70;", 1);
        told.act(3, 0);
        int[] each = {9, 70, 1, 2};
        for (int what = 0; what < 4; what++) {
            e.is("goes(1, " + what + ")", told.goes(1, what), each[what]);
        }
        e.says(14, "NONE if one can't be,");
        for (int n : new int[] {0, 61, -1, BIG, SMALL}) {
            for (int what = 0; what < 4; what++) {
                e.leaves(-1, "goes", n, what);
            }
        }
        e.says(14, "or another what.");
        anotherWhat(-1, 3, "goes", 1);
    }

    private void led() {
        e.says(TERMS, "LED: a SEEKER led n (1 .. 60) STEPS alone (MORNING stays, no TABLES; what he finds is gone"
            + " for his next"
            + " steps): what he has FOUND more; 8 times y and x where he is then.");
        GriefWood w = wood(9, 0, 0, 9, 7, 7);
        e.told(w, 2, "cell 0 0 truffle 9;cell 1 0 truffle 3;cell 7 6 truffle 5;", 3);
        e.told(w, 1, "on 0 seeker 0 stand 4 4;on 0 seeker 1 lead 1;", 2);
        e.told(w, 3, "on 0 table 1 pays 100;", 1);
        w.act(3, 0);
        e.told(w, 0, "stops 500;draws truffle when morning=0;draws y;", 3);
        e.is("what he has found more", w.led(0, 1, 0), 3);
        e.is("where he is", w.led(0, 1, 1), 1);
        e.is("gone for his next steps", w.led(0, 60, 0), 3);
        e.is("alone", w.led(0, 60, 0) + w.led(1, 60, 0), 8);
        e.is("where the other is", w.led(1, 1, 1), 55);
        // All 60 steps are on one morning: right to 7 0 and down, up, .. there; on another one he would go on down.
        e.is("the morning stays", w.led(0, 60, 1), 15);
        GriefWood basket = wood(9, 0, 0);
        e.told(basket, 3, "on 0 table 1 pays 100;", 1);
        e.told(basket, 0, "stops 500;draws y when basket>4;draws x;", 3);
        basket.set(2, 0, 5);
        e.is("no tables: what is in the basket stays", basket.led(0, 7, 1), 56);
        GriefWood x = wood(9, 0, 0);
        e.told(x, 0, "draws x;", 1);
        e.is("1 step", x.led(0, 1, 1), 1);
        e.is("7 steps", x.led(0, 7, 1), 7);
        e.is("60 steps: to and fro at the edge", x.led(0, 60, 1) % 8, 7);
        e.says(15, "LED what 0 what he has FOUND more, 1 where he is.");
        GriefWood far = wood(9, 7, 6);
        e.told(far, 2, "cell 7 7 truffle 4;", 1);
        e.told(far, 0, "stops 1000;draws y;", 2);
        e.is("found more", far.led(0, 1, 0), 4);
        e.is("where", far.led(0, 1, 1), 63);
        e.says(15, "NONE if one can't be,");
        for (int n : new int[] {0, 61, -1, BIG, SMALL}) {
            e.leaves(-1, "led", 0, n, 0);
            e.leaves(-1, "led", 1, n, 1);
        }
        for (int who : new int[] {-1, 2, 10, BIG, SMALL}) {
            e.leaves(-1, "led", who, 1, 0);
            e.leaves(-1, "led", who, 60, 1);
        }
        e.is("nobody", wood().led(0, 1, 0), -1);
        e.says(15, "or another what.");
        anotherWhat(-1, 1, "led", 0, 1);
    }

    private void fill(GriefWood w, String what) {
        for (int y = 0; y < 8; y += 2) {
            StringBuilder s = new StringBuilder();
            for (int i = 0; i < 16; i++) {
                s.append("cell ").append(i % 8).append(' ').append(y + i / 8).append(what).append(';');
            }
            e.told(w, 2, s.toString(), 16);
        }
    }

    private void through() {
        e.says(TERMS, "THROUGH THE WOOD from 0, 0 to 7, 7 by steps right and down: the greatest weight of TRUFFLES"
            + " on a way, both"
            + " ends, too;");
        String[] woods = {"", "cell 0 0 truffle 9;", "cell 7 7 truffle 9;", "cell 0 0 truffle 1;cell 7 7 truffle 2;",
            "cell 7 0 truffle 4;", "cell 0 7 truffle 4;", "cell 7 0 truffle 4;cell 0 7 truffle 5;",
            "cell 3 3 truffle 4;cell 2 4 truffle 5;", "cell 3 3 truffle 4;cell 3 4 truffle 5;cell 4 3 truffle 5;",
            "cell 7 0 truffle 3;cell 6 1 truffle 3;cell 7 7 truffle 1;"};
        int[] most = {0, 9, 9, 3, 4, 4, 5, 5, 9, 4};
        // Ways by x, y: x + y over x, times 14 - x - y over 7 - x.
        int[] ways = {3432, 3432, 3432, 3432, 1, 1, 1, 15 * 56, 2 * 20 * 35, 1 + 7 * 7};
        for (int i = 0; i < woods.length; i++) {
            GriefWood w = wood();
            Due.tell(w, 2, woods[i]);
            e.is("weight by " + woods[i], w.through(0), most[i]);
        }
        GriefWood full = wood();
        fill(full, " truffle 9");
        e.is("15 cells of 9", full.through(0), 135);
        e.says(TERMS, "how many ways have as much (unlike in a step).");
        for (int i = 0; i < woods.length; i++) {
            GriefWood w = wood();
            Due.tell(w, 2, woods[i]);
            e.is("ways by " + woods[i], w.through(1), ways[i]);
        }
        e.is("all", full.through(1), 3432);
        e.says(16, "THROUGH THE WOOD what 0 the greatest weight, 1 how many ways.");
        e.is("weight", wood().through(0), 0);
        e.is("ways", wood().through(1), 3432);
        e.says(16, "NONE for another what.");
        anotherWhat(-1, 1, "through");
    }

    private void meeting() {
        e.says(TERMS, "MEETING: the CELL to which all SEEKERS have together the fewest steps (up, right, down,"
            + " left): how many"
            + " steps;");
        int[][] at = {{3, 4}, {0, 0, 7, 7}, {7, 7, 6, 6}, {7, 0, 0, 7}, {0, 0, 0, 0, 7, 7}, {1, 1, 1, 2, 1, 3},
            {0, 7, 7, 7, 3, 0}, {7, 7, 7, 7, 7, 7, 7, 7, 7, 7, 7, 7, 7, 7, 7, 7, 7, 7, 7, 7},
            {0, 0, 0, 0, 0, 0, 0, 0, 0, 0, 7, 7, 7, 7, 7, 7, 7, 7, 7, 7}};
        int[] steps = {0, 14, 2, 14, 14, 2, 14, 0, 70};
        int[] cells = {35, 0, 54, 0, 0, 17, 59, 63, 0};
        for (int i = 0; i < at.length; i++) {
            e.is("steps of " + i, meetingOf(at[i]).meeting(0), steps[i]);
        }
        e.says(TERMS, "the CELL (8 times y and x; of several the least number; nobody: 0, NONE).");
        for (int i = 0; i < at.length; i++) {
            e.is("the cell of " + i, meetingOf(at[i]).meeting(1), cells[i]);
        }
        for (int cell = 0; cell < 64; cell++) {
            e.is("one alone", wood(9, cell % 8, cell / 8).meeting(1), cell);
        }
        e.is("nobody", wood().meeting(0), 0);
        e.is("nobody", wood().meeting(1), -1);
        e.says(17, "MEETING what 0 how many steps, 1 the CELL.");
        e.is("steps", wood(9, 2, 5).meeting(0), 0);
        e.is("the cell", wood(9, 2, 5).meeting(1), 42);
        e.says(17, "NONE, too, for another what.");
        anotherWhat(-1, 1, "meeting");
        e.is("nobody", wood().meeting(2), -1);
    }

    private static GriefWood meetingOf(int[] at) {
        GriefWood w = wood();
        for (int i = 0; i < at.length; i += 2) {
            w.seeker(9, at[i], at[i + 1]);
        }
        return w;
    }

    private void stands() {
        String[] woods = {"", "cell 0 0 oak;", "cell 0 0 oak;cell 1 0 oak;", "cell 0 0 oak;cell 0 1 oak;",
            "cell 0 0 oak;cell 1 1 oak;", "cell 7 0 oak;cell 0 1 oak;", "cell 0 0 oak;cell 7 0 oak;cell 0 7 oak;",
            "cell 3 3 oak;cell 2 3 oak;cell 4 3 oak;cell 3 2 oak;cell 3 4 oak;",
            "cell 1 1 oak;cell 2 1 oak;cell 3 1 oak;cell 3 2 oak;cell 3 3 oak;cell 2 3 oak;cell 1 3 oak;cell 1 2 oak;"
                + "cell 6 6 oak;cell 6 7 oak;",
            "cell 0 0 truffle 9;cell 2 2 bare;", "cell 3 0 oak;cell 3 1 oak;cell 2 1 oak;",
            "cell 0 0 oak;cell 0 1 oak;cell 1 1 oak;cell 2 1 oak;cell 2 0 oak;"};
        int[][] due = {{0, 0, 0}, {1, 1, 4}, {1, 2, 6}, {1, 2, 6}, {2, 1, 8}, {2, 1, 8}, {3, 1, 12}, {1, 5, 12},
            {2, 8, 16 + 6}, {0, 0, 0}, {1, 3, 8}, {1, 5, 12}};
        String[] says = {"STANDS: OAKS next to one another (not across corners) stand together: how many stands;",
            "how many OAKS the greatest has;", "how many sides of OAKS have no OAK beyond them."};
        GriefWood full = wood();
        fill(full, " oak");
        GriefWood chess = wood();
        for (int half = 0; half < 2; half++) {
            StringBuilder s = new StringBuilder();
            for (int i = 0; i < 16; i++) {
                int y = 4 * half + i / 4;
                s.append("cell ").append(2 * (i % 4) + y % 2).append(' ').append(y).append(" oak;");
            }
            e.told(chess, 2, s.toString(), 16);
        }
        int[] ofFull = {1, 64, 32};
        int[] ofChess = {32, 1, 128};
        for (int what = 0; what < 3; what++) {
            e.says(TERMS, says[what]);
            for (int i = 0; i < woods.length; i++) {
                GriefWood w = wood();
                Due.tell(w, 2, woods[i]);
                e.is(woods[i], w.stands(what), due[i][what]);
            }
            e.is("all", full.stands(what), ofFull[what]);
            e.is("every other", chess.stands(what), ofChess[what]);
        }
        e.says(18, "STANDS what 0 how many, 1 the greatest, 2 how many sides.");
        e.is("sides", full.stands(2), 32);
        e.says(18, "NONE for another what.");
        anotherWhat(-1, 2, "stands");
    }

    private void shares() {
        e.says(TERMS, "SHARES: three told what each set of them finds (0 .. 99; sets 1 .. 7 as bits; 0 at first; the"
            + " empty one"
            + " 0):");
        GriefWood w = wood();
        for (int i = 0; i < 3; i++) {
            fraction(w, i, 0, 1);
        }
        for (int i = 0; i < 3; i++) {
            GriefWood alone = wood();
            e.yes("alone", alone.finds(1 << i, 1));
            fraction(alone, i, 1, 3);
            fraction(alone, (i + 1) % 3, -1, 6);
            fraction(alone, (i + 2) % 3, -1, 6);
        }
        for (int set = 1; set <= 7; set++) {
            e.yes("99", w.finds(set, 99));
        }
        for (int i = 0; i < 3; i++) {
            fraction(w, i, 33, 1);
        }
        for (int set = 1; set <= 7; set++) {
            e.yes("0", w.finds(set, 0));
        }
        fraction(w, 0, 0, 1);
        e.says(TERMS, "the share of i: of all six orders in which they come, what he adds when he comes, by six:");
        // Alone 10, 20, 30; in twos 0 1: 40, 0 2: 60, 1 2: 70; all: 99.
        int[] finds = {0, 10, 20, 40, 30, 60, 70, 99};
        for (int set = 1; set <= 7; set++) {
            w.finds(set, finds[set]);
        }
        fraction(w, 0, 2 * 10 + 20 + 30 + 2 * 29, 6);
        fraction(w, 1, 2 * 20 + 30 + 40 + 2 * 39, 6);
        fraction(w, 2, 2 * 30 + 50 + 50 + 2 * 59, 6);
        e.says(TERMS, "as a fraction in lowest terms (above can be below 0).");
        GriefWood two = wood();
        two.finds(6, 99);
        fraction(two, 0, -33, 1);
        fraction(two, 1, 33, 2);
        fraction(two, 2, 33, 2);
        two.finds(7, 1);
        fraction(two, 0, -98, 3);
        fraction(two, 1, 101, 6);
        e.says(19, "What a set finds for SHARES: true;");
        GriefWood told = wood();
        e.yes("finds", told.finds(1, 99));
        e.yes("the later one", told.finds(1, 3));
        fraction(told, 0, 1, 1);
        e.says(19, "false if one can't be.");
        for (int set : new int[] {0, 8, -1, BIG, SMALL}) {
            e.leaves(0, "finds", set, 5);
        }
        for (int v : new int[] {-1, 100, BIG, SMALL}) {
            e.leaves(0, "finds", 5, v);
        }
        e.says(20, "SHARES of i (0 .. 2) what 0 above, 1 below.");
        e.is("above", two.share(2, 0), 101);
        e.is("below", two.share(2, 1), 6);
        e.says(20, "NONE - 9999 if one can't be,");
        for (int i : new int[] {-1, 3, BIG, SMALL}) {
            e.leaves(-10000, "share", i, 0);
            e.leaves(-10000, "share", i, 1);
        }
        e.says(20, "or another what.");
        anotherWhat(-10000, 1, "share", 0);
    }

    private void fraction(GriefWood w, int i, int above, int below) {
        int common = 1;
        for (int c = 2; c <= below; c++) {
            common = above % c == 0 && below % c == 0 ? c : common;
        }
        e.is("share(" + i + ", 0)", w.share(i, 0), above / common);
        e.is("share(" + i + ", 1)", w.share(i, 1), below / common);
    }

    /** A row that is told: each of its places, the numbers at its bounds, and what it refuses. */
    private void row(String name, int size, int least, int most) {
        GriefWood w = wood();
        for (int i = 1; i <= size; i++) {
            e.is(name, Calls.call(w, name, i % 2 == 0 ? least : most), i);
        }
        e.is("there are so many", Calls.call(w, name, least), -1);
        e.is("there are so many", Calls.call(w, name, most), -1);
        e.is("none is then", Calls.call(w, name, -1), 0);
        e.is("none is then, again", Calls.call(w, name, -1), 0);
        e.is("the first", Calls.call(w, name, least), 1);
        e.is("the second", Calls.call(w, name, most), 2);
    }

    private void refusedInRow(String name, int least, int most) {
        for (int v : new int[] {-2, most + 1, BIG, SMALL}) {
            e.leaves(-1, name, v);
        }
        if (least > 0) {
            e.leaves(-1, name, 0);
        }
    }

    private static GriefWood tell(String name, int... row) {
        GriefWood w = wood();
        for (int v : row) {
            Calls.call(w, name, v);
        }
        return w;
    }

    private void parts() {
        e.says(TERMS, "CUT: a told row of up to 12 weights (1 .. 99), as it stands, into k (1 .. 12) parts on end at"
            + " most, none"
            + " empty:");
        row("part", 12, 1, 99);
        int[][] rows = {{9, 1, 1, 9}, {9, 9, 1, 1}, {1, 9, 9, 1}};
        int[] inTwo = {10, 11, 10};
        for (int i = 0; i < rows.length; i++) {
            e.is("as it stands", tell("part", rows[i]).cut(2, 0), inTwo[i]);
        }
        e.is("more parts than weights", tell("part", 5, 6).cut(12, 0), 6);
        e.says(21, "A weight for CUT (NONE: none is then): how many;");
        row("part", 12, 1, 99);
        e.is("none is then", tell("part", 5, 6, -1).cut(1, 0), 0);
        e.is("one is told again", tell("part", 5, 6, -1, 7).cut(1, 0), 7);
        e.says(21, "NONE if one can't be,");
        refusedInRow("part", 1, 99);
        e.says(21, "or there are twelve.");
        GriefWood twelve = tell("part", 1, 1, 1, 1, 1, 1, 1, 1, 1, 1, 1, 1);
        e.is("the thirteenth", twelve.part(99), -1);
        e.is("it is not in it", twelve.cut(1, 0), 12);
    }

    private void cut() {
        int[] ones = {1, 1, 1, 1, 1, 1, 1, 1, 1, 1, 1, 1};
        int[][] rows = {{}, {99}, ones, {9, 1, 1, 9}, {1, 2, 3, 4, 5}};
        // k, the least, how many ways, for each row.
        int[][] due = {{0, 1, 0, 1}, {0, 12, 0, 1}, {1, 1, 99, 1}, {1, 2, 99, 1}, {1, 12, 99, 1}, {2, 1, 12, 1},
            {2, 2, 6, 1}, {2, 6, 2, 1}, {2, 7, 2, 22}, {2, 11, 2, 232}, {2, 12, 1, 1}, {3, 1, 20, 1}, {3, 2, 10, 1},
            {3, 3, 9, 1}, {3, 4, 9, 2}, {3, 12, 9, 2}, {4, 2, 9, 1}, {4, 3, 6, 1}, {4, 4, 5, 2}, {4, 5, 5, 3},
            {4, 12, 5, 3}};
        e.says(TERMS, "the least weight that the heaviest part can have;");
        for (int[] d : due) {
            e.is("cut(" + d[1] + ", 0) of row " + d[0], tell("part", rows[d[0]]).cut(d[1], 0), d[2]);
        }
        int[] heavy = new int[12];
        java.util.Arrays.fill(heavy, 99);
        e.is("12 of 99", tell("part", heavy).cut(1, 0), 1188);
        e.says(TERMS, "by how many ways of cutting (into k parts at most) none is heavier than that.");
        for (int[] d : due) {
            e.is("cut(" + d[1] + ", 1) of row " + d[0], tell("part", rows[d[0]]).cut(d[1], 1), d[3]);
        }
        int[] last = ones.clone();
        last[11] = 99;
        e.is("the eleven ahead of the last in any way", tell("part", last).cut(12, 1), 1024);
        e.says(22, "CUT what 0 the least, 1 how many cuts (none told: 0, 1).");
        for (int k = 1; k <= 12; k++) {
            e.is("none told", wood().cut(k, 0), 0);
            e.is("none told", wood().cut(k, 1), 1);
        }
        e.says(22, "NONE if k can't be,");
        for (int k : new int[] {0, 13, -1, BIG, SMALL}) {
            e.leaves(-1, "cut", k, 0);
            e.leaves(-1, "cut", k, 1);
            e.is("none told", wood().cut(k, 0), -1);
        }
        e.says(22, "or another what.");
        anotherWhat(-1, 1, "cut", 1);
    }

    private static boolean isRow(int row) {
        String s = String.format("%04d", row);
        return s.length() == 4 && s.contains("0") && s.contains("1") && s.contains("2") && s.contains("3");
    }

    private void wishes() {
        e.says(TERMS, "PAIRS: two told tables of wishes of four by four (each row four digits 0 .. 3, each once, the"
            + " dearest"
            + " first; 0123 at first):");
        e.is("at first", wood().pairs(0), 123);
        e.is("at first", wood().pairs(1), 1);
        int rows = 0;
        for (int row = 0; row <= 9999; row++) {
            boolean can = isRow(row);
            if (can || row < 400 || row % 97 == 0) {
                e.is("row " + row, wood().wish(row % 2, row % 4, row) ? 1 : 0, can ? 1 : 0);
            }
            rows += can ? 1 : 0;
        }
        e.is("rows", rows, 24);
        // A boy whom nobody else likes best goes to the seeker who likes him best.
        for (int boy = 0; boy < 4; boy++) {
            GriefWood w = wood();
            int[] first = {123, 1023, 2013, 3012};
            w.wish(0, 3, first[boy]);
            w.wish(1, boy, 3012);
            e.is("seeker 3 likes boy " + boy + " best, who likes him best", w.pairs(0) % 10, boy);
        }
        e.says(23, "Wishes for PAIRS: of seeker (which 0), boy (which 1) i the row: true;");
        GriefWood w = wood();
        for (int i = 0; i < 4; i++) {
            e.yes("seeker", w.wish(0, i, 3210));
            e.yes("boy", w.wish(1, i, 3210));
        }
        e.is("seeker 3 gets boy 3, 2 gets 2, ..", w.pairs(0), 123);
        for (int i = 0; i < 4; i++) {
            e.yes("the later row", w.wish(0, i, 123));
        }
        e.is("seeker 3 gets boy 0, 2 gets 1, ..", w.pairs(0), 3210);
        e.says(23, "false if one can't be.");
        for (int row : new int[] {-123, -1, 0, 1, 12, 122, 124, 1234, 3211, 3220, 4123, 10123, 123123, 32103210, BIG,
            SMALL}) {
            e.leaves(0, "wish", 0, 0, row);
            e.leaves(0, "wish", 1, 3, row);
        }
        for (int v : new int[] {-1, 2, BIG, SMALL}) {
            e.leaves(0, "wish", v, 0, 3210);
        }
        for (int v : new int[] {-1, 4, BIG, SMALL}) {
            e.leaves(0, "wish", 0, v, 3210);
            e.leaves(0, "wish", 1, v, 3210);
        }
    }

    private void pairs() {
        e.says(TERMS, "who goes with whom, if seekers ask and boys choose: each seeker not taken asks the dearest"
            + " boy he did not"
            + " ask yet, who keeps the dearer one: a row of digits (whom seeker 0, 1, .. gets);");
        // Of many steady ways the seekers get the one that is best for them all.
        GriefWood w = wood();
        int[] seekers = {123, 1032, 2301, 3210};
        int[] boys = {3210, 2301, 1032, 123};
        for (int i = 0; i < 4; i++) {
            w.wish(0, i, seekers[i]);
            w.wish(1, i, boys[i]);
        }
        e.is("each the dearest", w.pairs(0), 123);
        GriefWood one = wood();
        one.wish(1, 0, 3210);
        e.is("boy 0 keeps 3, the others 0, 1, 2", one.pairs(0), 1230);
        one.wish(1, 1, 2310);
        e.is("boy 1 keeps 2 then", one.pairs(0), 2310);
        e.says(TERMS, "how many ways there are to pair all so that no two would both rather go with one another.");
        e.is("ten, the most that four by four can have", w.pairs(1), 10);
        e.is("one", wood().pairs(1), 1);
        GriefWood two = wood();
        two.wish(0, 1, 1023);
        two.wish(1, 0, 1023);
        two.wish(1, 1, 123);
        e.is("two, if 0 and 1 cross", two.pairs(1), 2);
        e.is("and the seekers get the dearer", two.pairs(0), 123);
        e.says(24, "PAIRS what 0 the row (a number), 1 how many ways.");
        e.is("0123 is 123", wood().pairs(0), 123);
        e.is("one", wood().pairs(1), 1);
        e.says(24, "NONE for another what.");
        anotherWhat(-1, 1, "pairs");
    }

    private void eggs() {
        e.says(TERMS, "EGGS: n (0 .. 500) steps of a tower, e (1 .. 8) eggs: the fewest throws by which it is always"
            + " known from"
            + " which step up eggs break (1 .. n, or not even from n), one that broke is gone, others can be thrown"
            + " again;");
        // n, e, the fewest, the first step.
        int[][] due = {{0, 1, 0, -1}, {0, 8, 0, -1}, {1, 1, 1, 1}, {1, 8, 1, 1}, {2, 1, 2, 1}, {2, 2, 2, 1}, {3, 1,
            3, 1},
            {3, 2, 2, 2}, {4, 2, 3, 1}, {6, 2, 3, 3}, {7, 2, 4, 1}, {7, 3, 3, 4}, {496, 2, 31, 31}, {497, 2, 32, 1},
            {500, 2, 32, 4}, {500, 1, 500, 1}, {499, 1, 499, 1}, {255, 8, 8, 128}, {256, 8, 9, 1}, {500, 8, 9, 245}};
        for (int[] d : due) {
            e.is("fewest of " + d[0] + ", " + d[1], wood().eggs(d[0], d[1], 0), d[2]);
        }
        e.says(TERMS, "from which step the first one is thrown (of several the least; n 0: 0, NONE).");
        for (int[] d : due) {
            e.is("first of " + d[0] + ", " + d[1], wood().eggs(d[0], d[1], 1), d[3]);
        }
        for (int eggs = 1; eggs <= 8; eggs++) {
            e.is("n 0", wood().eggs(0, eggs, 0), 0);
            e.is("n 0", wood().eggs(0, eggs, 1), -1);
        }
        e.says(25, "EGGS what 0 the fewest, 1 from which step.");
        e.is("the fewest", wood().eggs(10, 2, 0), 4);
        e.is("from which step", wood().eggs(10, 2, 1), 4);
        e.says(25, "NONE, too, if one can't be,");
        for (int n : new int[] {-1, 501, BIG, SMALL}) {
            e.leaves(-1, "eggs", n, 1, 0);
            e.leaves(-1, "eggs", n, 8, 1);
        }
        for (int many : new int[] {0, 9, -1, BIG, SMALL}) {
            e.leaves(-1, "eggs", 5, many, 0);
            e.leaves(-1, "eggs", 0, many, 0);
            e.leaves(-1, "eggs", 5, many, 1);
        }
        e.says(25, "or another what.");
        anotherWhat(-1, 1, "eggs", 5, 2);
        e.is("n 0", wood().eggs(0, 1, 2), -1);
    }

    private void season(int ab, int cd, int n, int above, int below) {
        e.is("season(" + ab + ", " + cd + ", " + n + ", 0)", wood().season(ab, cd, n, 0), above);
        e.is("season(" + ab + ", " + cd + ", " + n + ", 1)", wood().season(ab, cd, n, 1), below);
    }

    private void seasons() {
        e.says(TERMS, "SEASONS: behind a good one comes a good one by a chance a by b, behind a bad one by c by d (0"
            + " .. 5 by 1 .."
            + " 5 each, not above 1):");
        for (int v = -20; v <= 130; v++) {
            int above = Math.floorDiv(v, 10);
            int below = Math.floorMod(v, 10);
            boolean can = v > 0 && above <= 5 && below >= 1 && below <= 5 && above <= below;
            e.is("ab " + v, wood().season(v, 11, 0, 0), can ? 1 : -1);
            e.is("cd " + v, wood().season(11, v, 0, 0), can ? 1 : -1);
        }
        e.says(TERMS, "the chance that the one n (0 .. 5) behind a good one is good, as a fraction in lowest terms"
            + " (n 0: 1 by 1;"
            + " none: 0 by 1).");
        int[][] due = {{12, 13, 0, 1, 1}, {1, 1, 0, 1, 1}, {12, 13, 1, 1, 2}, {24, 11, 1, 1, 2}, {12, 13, 2, 5, 12},
            {12, 13, 3, 29, 72}, {12, 13, 4, 173, 432}, {12, 13, 5, 1037, 2592}, {5, 5, 1, 0, 1}, {1, 1, 5, 0, 1},
            {1, 11, 1, 0, 1}, {1, 11, 2, 1, 1}, {1, 55, 5, 0, 1}, {55, 1, 5, 1, 1}, {55, 15, 1, 1, 1}, {45, 34, 2,
            79, 100}};
        for (int[] d : due) {
            season(d[0], d[1], d[2], d[3], d[4]);
        }
        e.says(26, "SEASONS: ab, cd are 10 times above and below; what 0 above, 1 below.");
        season(23, 11, 1, 2, 3);
        season(11, 23, 1, 1, 1);
        e.says(26, "NONE if one can't be,");
        for (int bad : new int[] {0, 10, 50, 21, 54, 16, 56, 61, 65, 66, 6, -1, -11, -12, 111, 112, BIG, SMALL}) {
            for (int n = 0; n <= 5; n += 5) {
                e.leaves(-1, "season", bad, 11, n, 0);
                e.leaves(-1, "season", 11, bad, n, 1);
            }
        }
        for (int n : new int[] {-1, 6, BIG, SMALL}) {
            e.leaves(-1, "season", 12, 12, n, 0);
            e.leaves(-1, "season", 12, 12, n, 1);
        }
        e.says(26, "or another what.");
        anotherWhat(-1, 1, "season", 12, 12, 1);
    }

    private void heights() {
        e.says(27, "A height for HOLLOW (NONE: none is then): how many;");
        row("height", 12, 0, 99);
        e.is("none is then", tell("height", 5, 6, -1).hollow(2), 0);
        e.is("one is told again", tell("height", 5, 6, -1, 7).hollow(2), 1);
        e.says(27, "NONE if one can't be,");
        refusedInRow("height", 0, 99);
        e.says(27, "or there are twelve.");
        GriefWood twelve = tell("height", 1, 2, 3, 4, 5, 6, 7, 8, 9, 10, 11, 12);
        e.is("the thirteenth", twelve.height(99), -1);
        e.is("it is not in it", twelve.hollow(2), 12);
    }

    private static final int[][] ROWS = {{}, {0}, {99}, {0, 0}, {5, 1, 5, 1, 5}, {5, 1, 2, 5}, {5, 0, 3}, {3, 0, 5},
        {99, 0, 0, 0, 0, 0, 0, 0, 0, 0, 0, 99}, {1, 2, 3, 4, 5, 6, 7, 8, 9, 10, 11, 12}, {12, 11, 10, 9, 8, 7, 6, 5,
        4, 3, 2, 1},
        {99, 99, 99, 99, 99, 99, 99, 99, 99, 99, 99, 99}, {0, 9, 0}, {4, 2, 4, 4, 2, 4}};
    // How much, pools, from the left, from the right, couples.
    private static final int[][] OF_ROWS = {{0, 0, 0, 0, 0}, {0, 0, 1, 1, 0}, {0, 0, 1, 1, 0}, {0, 0, 1, 1, 1},
        {8, 2, 1, 1, 6}, {7, 1, 1, 1, 5}, {3, 1, 1, 2, 3}, {3, 1, 2, 1, 3}, {990, 1, 1, 1, 12}, {0, 0, 12, 1, 11},
        {0, 0, 1, 12, 11}, {0, 0, 1, 1, 11}, {0, 0, 2, 2, 2}, {4, 2, 1, 1, 7}};

    private void rows(int what) {
        for (int i = 0; i < ROWS.length; i++) {
            e.is("hollow(" + what + ") of row " + i, tell("height", ROWS[i]).hollow(what), OF_ROWS[i][what]);
        }
    }

    private void hollow() {
        e.says(TERMS, "HOLLOW: a told row of up to 12 heights (0 .. 99): on each stays as much rain as the lesser of"
            + " the greatest"
            + " heights to both sides (itself, too) is above it: how much in all;");
        rows(0);
        e.says(TERMS, "in how many pools (places with rain side by side are one).");
        rows(1);
    }

    private void seen() {
        e.says(TERMS, "SEEN: of the row of HOLLOW: how many are higher than all to the left of them; to the right;");
        rows(2);
        rows(3);
        e.says(TERMS, "how many couples have all between lower than both.");
        rows(4);
        e.says(28, "HOLLOW what 0 how much, 1 how many pools; SEEN what 2 from the left, 3 from the right, 4 couples.");
        GriefWood w = tell("height", 2, 1, 3, 0, 1);
        int[] due = {2, 2, 2, 2, 6};
        for (int what = 0; what < 5; what++) {
            e.is("hollow(" + what + ")", w.hollow(what), due[what]);
        }
        e.says(28, "NONE for another what.");
        anotherWhat(-1, 4, "hollow");
    }

    private void thirds() {
        e.says(29, "A weight for THREE (NONE: none is then): how many;");
        row("third", 9, 1, 60);
        e.is("none is then", tell("third", 5, -1).three(0), 1);
        e.is("told again", tell("third", 5, -1, 7, 7, 7).three(1), 6);
        e.says(29, "NONE if one can't be,");
        refusedInRow("third", 1, 60);
        e.says(29, "or there are nine.");
        GriefWood nine = tell("third", 1, 1, 1, 1, 1, 1, 1, 1, 1);
        e.is("the tenth", nine.third(60), -1);
        e.is("it is not in it", nine.three(0), 1);
    }

    private void three() {
        int[][] rows = {{}, {1}, {3}, {60}, {1, 1}, {1, 1, 1}, {1, 1, 4}, {1, 1, 2}, {2, 1, 1, 2}, {1, 2, 3}, {1, 2,
            3, 3},
            {60, 60, 60, 60, 60, 60, 60, 60, 60}, {60, 60, 60, 60, 60, 60, 60, 60}, {1, 2, 3, 4, 5, 6, 7, 8, 9},
            {20, 20, 20, 30, 30, 60}};
        int[] ways = {1, 0, 0, 0, 0, 6, 0, 0, 6, 0, 6, 1680, 0, 54, 6};
        e.says(TERMS, "THREE: up to 9 told weights (1 .. 60): whether they can be split among three, each as much"
            + " (1, 0; none"
            + " told: 1);");
        row("third", 9, 1, 60);
        for (int i = 0; i < rows.length; i++) {
            e.is("whether, row " + i, tell("third", rows[i]).three(0), ways[i] > 0 ? 1 : 0);
        }
        e.says(TERMS, "in how many ways (each weight to one of three, alike weights told apart).");
        for (int i = 0; i < rows.length; i++) {
            e.is("ways, row " + i, tell("third", rows[i]).three(1), ways[i]);
        }
        e.says(30, "THREE what 0 whether, 1 in how many ways (none told: 1, 1).");
        e.is("none told", wood().three(0), 1);
        e.is("none told", wood().three(1), 1);
        e.says(30, "NONE for another what.");
        anotherWhat(-1, 1, "three");
    }

    private void sums() {
        e.says(TERMS, "POUNDS: told sums, up to 8, of pounds, ounces (16), drams (16) as numbers p, o, d (0 .. 99, 0"
            + " .. 15, 0 .."
            + " 15):");
        GriefWood w = wood();
        for (int i = 1; i <= 8; i++) {
            e.is("sum", i % 2 == 0 ? w.sum(0, 0, 0) : w.sum(99, 15, 15), i);
        }
        e.is("the ninth", w.sum(0, 0, 0), -1);
        e.says(TERMS, "all together: pounds, ounces, drams.");
        int[][] sums = {{}, {0, 0, 15, 0, 0, 1}, {0, 15, 0, 0, 1, 0}, {0, 15, 15, 0, 0, 1}, {99, 15, 15, 99, 15, 15},
            {1, 2, 3, 4, 5, 6}, {99, 15, 15, 99, 15, 15, 99, 15, 15, 99, 15, 15, 99, 15, 15, 99, 15, 15, 99, 15, 15,
            99, 15, 15}};
        int[][] due = {{0, 0, 0}, {0, 1, 0}, {1, 0, 0}, {1, 0, 0}, {199, 15, 14}, {5, 7, 9}, {799, 15, 8}};
        for (int i = 0; i < sums.length; i++) {
            for (int what = 0; what < 3; what++) {
                GriefWood p = wood();
                for (int k = 0; k < sums[i].length; k += 3) {
                    p.sum(sums[i][k], sums[i][k + 1], sums[i][k + 2]);
                }
                e.is("pounds(" + what + ") of " + i, p.pounds(what), due[i][what]);
            }
        }
        e.says(31, "A sum for POUNDS (p NONE: none is then): how many;");
        e.is("none is then", w.sum(-1, 0, 0), 0);
        for (int what = 0; what < 3; what++) {
            e.is("none is then", w.pounds(what), 0);
        }
        e.is("the first", w.sum(7, 0, 0), 1);
        e.is("pounds", w.pounds(0), 7);
        e.is("p alone tells it", w.sum(-1, 99, SMALL), 0);
        e.is("pounds", w.pounds(0), 0);
        e.says(31, "NONE if one can't be,");
        for (int p : new int[] {-2, 100, BIG, SMALL}) {
            e.leaves(-1, "sum", p, 0, 0);
        }
        for (int v : new int[] {-1, 16, BIG, SMALL}) {
            e.leaves(-1, "sum", 0, v, 0);
            e.leaves(-1, "sum", 0, 0, v);
        }
        e.says(31, "or there are eight.");
        GriefWood eight = wood();
        for (int i = 1; i <= 8; i++) {
            e.is("sum", eight.sum(1, 1, 1), i);
        }
        e.is("the ninth", eight.sum(1, 1, 1), -1);
        e.is("it is not in it", eight.pounds(0), 8);
        e.is("none is then", eight.sum(-1, 1, 1), 0);
        e.says(32, "POUNDS what 0 pounds, 1 ounces, 2 drams.");
        GriefWood one = wood();
        one.sum(3, 4, 5);
        for (int what = 0; what < 3; what++) {
            e.is("pounds(" + what + ")", one.pounds(what), 3 + what);
        }
        e.says(32, "NONE for another what.");
        anotherWhat(-1, 2, "pounds");
    }

    private static final int[][] SIZES = {{1, 1}, {1, 2}, {2, 1}, {2, 2}, {1, 20}, {20, 1}, {2, 20}, {20, 2}, {3,
        3}, {4, 3},
        {3, 4}, {3, 20}, {19, 4}, {5, 5}};

    /** The cells in their order, by one who turns right where he can't go on. */
    private static int[] walked(int w, int h) {
        boolean[] been = new boolean[w * h];
        int[] cells = new int[w * h];
        int x = 0;
        int y = 0;
        int dx = 1;
        int dy = 0;
        for (int k = 0; k < w * h; k++) {
            cells[k] = 100 * y + x;
            been[w * y + x] = true;
            int nx = x + dx;
            int ny = y + dy;
            if (nx < 0 || nx >= w || ny < 0 || ny >= h || been[w * ny + nx]) {
                int turned = dx;
                dx = -dy;
                dy = turned;
            }
            x += dx;
            y += dy;
        }
        return cells;
    }

    private void round() {
        e.says(TERMS, "IN ROUND: CELLS of a wood of w by h (1 .. 20 each) gone round from 0, 0 to the right, then"
            + " down, left, up,"
            + " inwards: 100 times y and x of the k-th (from 0);");
        for (int[] s : SIZES) {
            GriefWood w = wood();
            int[] cells = walked(s[0], s[1]);
            for (int k = 0; k < cells.length; k++) {
                e.is("round(" + s[0] + ", " + s[1] + ", " + k + ")", w.round(s[0], s[1], k), cells[k]);
            }
        }
        GriefWood w = wood();
        int[] cells = walked(20, 20);
        for (int k = 0; k < 400; k++) {
            e.is("round(20, 20, " + k + ")", w.round(20, 20, k), cells[k]);
        }
        e.says(33, "IN ROUND: the k-th of w by h.");
        e.is("the last", w.round(20, 20, 399), 1009);
        e.is("w, then h", w.round(3, 2, 3), 102);
        e.says(33, "NONE if one can't be (k below w times h).");
        int[][] bad = {{1, 1, 1}, {2, 3, 6}, {20, 20, 400}, {2, 2, -1}, {0, 1, 0}, {1, 0, 0}, {21, 1, 0}, {1, 21, 0},
            {-1, -1, 0}, {0, 0, 0}, {2, 2, BIG}, {2, 2, SMALL}, {BIG, 2, 0}, {2, BIG, 0}, {SMALL, SMALL, 0}, {65536,
            65536, 0}};
        for (int[] b : bad) {
            e.leaves(-1, "round", b);
        }
    }

    private void rounds() {
        e.says(TERMS, "which one x, y is.");
        for (int[] s : SIZES) {
            GriefWood w = wood();
            int[] cells = walked(s[0], s[1]);
            for (int k = 0; k < cells.length; k++) {
                e.is("rounds(" + s[0] + ", " + s[1] + ", " + cells[k] + ")",
                    w.rounds(s[0], s[1], cells[k] % 100, cells[k] / 100), k);
            }
        }
        e.says(34, "IN ROUND: which one x, y is.");
        e.is("the last", wood().rounds(20, 20, 9, 10), 399);
        e.is("x, then y", wood().rounds(3, 2, 2, 1), 3);
        e.says(34, "NONE if one can't be.");
        int[][] bad = {{2, 3, 2, 0}, {2, 3, 0, 3}, {2, 3, -1, 0}, {2, 3, 0, -1}, {0, 1, 0, 0}, {1, 0, 0, 0}, {21, 1,
            0, 0},
            {1, 21, 0, 0}, {20, 20, 20, 0}, {20, 20, 0, 20}, {-1, -1, -2, -2}, {2, 2, BIG, 0}, {2, 2, 0, SMALL},
            {BIG, 2, 0, 0}, {2, BIG, 0, 0}};
        for (int[] b : bad) {
            e.leaves(-1, "rounds", b);
        }
    }

    private void halves() {
        e.says(TERMS, "HALVES: a thing lies at one of the depths 1 .. n (1 .. 1000); as long as it can lie at"
            + " several, from least"
            + " to most, one probes at least and most by 2: whether it lies there or less deep, or deeper:");
        int[][] due = {{0}, {1, 1}, {2, 2, 1}, {2, 2, 2, 2}, {3, 3, 2, 2, 2}, {3, 3, 2, 3, 3, 2}, {3, 3, 3, 3, 3, 3,
            2}};
        for (int n = 1; n <= due.length; n++) {
            for (int d = 1; d <= n; d++) {
                e.is("halves(" + n + ", " + d + ")", wood().halves(n, d), due[n - 1][d - 1]);
            }
        }
        e.says(TERMS, "behind how many probes it is known, if it lies at d (1 .. n);");
        e.is("1 of 1", wood().halves(1, 1), 0);
        e.is("1 of 1000", wood().halves(1000, 1), 10);
        e.is("1000 of 1000", wood().halves(1000, 1000), 9);
        e.is("500 of 1000", wood().halves(1000, 500), 9);
        e.says(TERMS, "behind how many at most, wherever it lies.");
        int[][] most = {{1, 0}, {2, 1}, {3, 2}, {4, 2}, {5, 3}, {8, 3}, {9, 4}, {512, 9}, {513, 10}, {1000, 10}};
        for (int[] m : most) {
            e.is("halves(" + m[0] + ", NONE)", wood().halves(m[0], -1), m[1]);
            GriefWood w = wood();
            int greatest = 0;
            for (int d = 1; d <= m[0] && d <= 510; d++) {
                greatest = Math.max(greatest, w.halves(m[0], d));
            }
            e.is("the greatest of " + m[0], greatest, m[1]);
        }
        e.says(35, "HALVES: behind how many probes; at most (d NONE).");
        e.is("d 3 of 3", wood().halves(3, 3), 1);
        e.is("at most", wood().halves(3, -1), 2);
        e.says(35, "NONE if one can't be.");
        for (int n : new int[] {0, 1001, -1, BIG, SMALL}) {
            e.leaves(-1, "halves", n, 1);
            e.leaves(-1, "halves", n, -1);
            e.leaves(-1, "halves", n, 0);
        }
        for (int d : new int[] {0, 6, -2, BIG, SMALL}) {
            e.leaves(-1, "halves", 5, d);
        }
        e.leaves(-1, "halves", 1000, 1001);
        e.leaves(-1, "halves", 1, 2);
    }

    private void song() {
        e.says(TERMS, "SONG: verse 0 has 1 line, verse 1 has 2; each next one has those of the two ahead of it and"
            + " as many more as"
            + " its number: lines of verse n (0 .. 30);");
        int[] verses = {1, 2, 5, 10, 19, 34, 59, 100};
        int[] together = {1, 3, 8, 18, 37, 71, 130, 230};
        for (int n = 0; n < verses.length; n++) {
            e.is("verse " + n, wood().song(n, 0), verses[n]);
        }
        e.is("verse 30", wood().song(30, 0), 7049123);
        e.says(TERMS, "of verses 0 .. n together.");
        for (int n = 0; n < together.length; n++) {
            e.is("0 .. " + n, wood().song(n, 1), together[n]);
        }
        e.is("0 .. 30", wood().song(30, 1), 18454366);
        e.says(36, "SONG what 0 lines of verse n, 1 together.");
        e.is("verse 2", wood().song(2, 0), 5);
        e.is("together", wood().song(2, 1), 8);
        e.says(36, "NONE if n can't be,");
        for (int n : new int[] {-1, 31, BIG, SMALL}) {
            e.leaves(-1, "song", n, 0);
            e.leaves(-1, "song", n, 1);
        }
        e.says(36, "or another what.");
        anotherWhat(-1, 1, "song", 3);
    }

    private void spades() {
        int[][] rows = {{}, {0}, {1023}, {5, 5}, {5, 5, 5}, {1023, 1}, {1, 2, 4}, {1, 2, 3}, {1, 2, 3, 0}, {512, 1,
            513, 1},
            {1023, 1023, 1023, 1023, 1023, 1023, 1023, 1023, 1023, 1023}, {1, 2, 4, 8, 16, 32, 64, 128, 256, 512}};
        int[] left = {0, 0, 1023, 0, 5, 1022, 7, 0, 0, 1, 0, 1023};
        int[] whether = {0, 1, 1, 0, 1, 0, 0, 0, 1, 1, 0, 0};
        e.says(TERMS, "SPADES: up to 10 told numbers (0 .. 1023), laid on one another bit by bit (a bit is there, if"
            + " in an odd"
            + " number of them): what is left;");
        row("spade", 10, 0, 1023);
        for (int i = 0; i < rows.length; i++) {
            e.is("left of row " + i, tell("spade", rows[i]).spades(0), left[i]);
        }
        e.says(TERMS, "whether that is one of those told (1, 0).");
        for (int i = 0; i < rows.length; i++) {
            e.is("whether, row " + i, tell("spade", rows[i]).spades(1), whether[i]);
        }
        e.is("not one of those told once", tell("spade", 5, 3, -1, 6, 3).spades(1), 0);
        e.says(37, "A number for SPADES (NONE: none is then): how many;");
        row("spade", 10, 0, 1023);
        e.is("none is then", tell("spade", 5, -1).spades(0), 0);
        e.says(37, "NONE if one can't be,");
        refusedInRow("spade", 0, 1023);
        e.says(37, "or there are ten.");
        GriefWood ten = tell("spade", 1, 1, 1, 1, 1, 1, 1, 1, 1, 1);
        e.is("the eleventh", ten.spade(7), -1);
        e.is("it is not in it", ten.spades(0), 0);
        e.says(38, "SPADES what 0 what is left (none told: 0), 1 whether (none told: 0).");
        e.is("none told", wood().spades(0), 0);
        e.is("none told", wood().spades(1), 0);
        e.says(38, "NONE for another what.");
        anotherWhat(-1, 1, "spades");
    }

    /** The lengths of rows behind the 1, or none, if they can't be. */
    private static int[] lengths(int rows) {
        String s = String.valueOf(rows);
        if (rows < 10 || rows > 199999 || s.charAt(0) != '1') {
            return new int[0];
        }
        int[] l = new int[s.length() - 1];
        for (int i = 0; i < l.length; i++) {
            l[i] = s.charAt(i + 1) - '0';
            if (l[i] > 5 || i > 0 && l[i] > l[i - 1]) {
                return new int[0];
            }
        }
        return l;
    }

    private static int bitten(int[] l, int x, int y) {
        int rows = 1;
        for (int i = 0; i < l.length; i++) {
            rows = 10 * rows + (i < y ? l[i] : Math.min(l[i], x));
        }
        return rows;
    }

    /** The least start that leaves a wood of which the other's first move is none. */
    private static int start(GriefWood w, int[] l) {
        for (int y = 0; y < l.length; y++) {
            for (int x = 0; x < l[y]; x++) {
                if (x + y > 0 && w.game(bitten(l, x, y)) == -1) {
                    return 10 * y + x;
                }
            }
        }
        return -1;
    }

    private void game() {
        e.says(TERMS, "GAME on a wood whose rows have told lengths (1 .. 5 digits 0 .. 5 behind a 1, the first the"
            + " top row's, none"
            + " greater than the one ahead of it):");
        int[][] due = {{12, 1}, {15, 1}, {111, 10}, {122, 11}, {155, 14}, {11111, 10}, {111111, 10}, {155555, 11},
            {1500, 1},
            {150000, 1}, {131, 2}, {1511, 3}, {1211, 20}};
        for (int[] d : due) {
            e.is("game(" + d[0] + ")", wood().game(d[0]), d[1]);
        }
        for (int bad : new int[] {1, 6, 2, 22, 25, 16, 19, 112, 123, 1512, 105, 156, 165, 1555555, 1222222, 255555,
            0, -12, -1, BIG,
            SMALL, 1000000005}) {
            e.is("game(" + bad + ")", wood().game(bad), -1);
        }
        e.says(TERMS, "two by turns take a CELL x, y that is there and all that are at its right or below it or both"
            + " (x and y at"
            + " least as great); who takes 0, 0 loses:");
        int tried = 0;
        for (int rows = 10; rows < 156000; rows++) {
            int[] l = lengths(rows);
            if (l.length > 0) {
                tried++;
                GriefWood w = wood();
                e.is("game(" + rows + ")", w.game(rows), start(w, l));
            }
        }
        e.is("all woods: 6, 21, 56, 126, 252 of them", tried, 461);
        e.says(TERMS, "how one who wins begins (10 times y and x; of several the least; NONE: loses, or no CELL is"
            + " there).");
        e.is("the only cell", wood().game(11), -1);
        e.is("a corner with arms alike", wood().game(121), -1);
        e.is("a corner with arms alike", wood().game(1311), -1);
        for (int none : new int[] {10, 100, 1000, 10000, 100000}) {
            e.is("no cell", wood().game(none), -1);
        }
        e.is("a top row alone", wood().game(1200), 1);
        e.is("10 times y and x", wood().game(122), 11);
        e.says(39, "GAME by a row of h digits behind a 1.");
        e.is("one digit", wood().game(13), 1);
        e.is("five digits", wood().game(111111), 10);
        e.says(39, "NONE, too, if one can't be.");
        for (int bad : new int[] {1, 0, -1, 16, 112, 1555555, 255, BIG, SMALL}) {
            e.leaves(-1, "game", bad);
        }
    }
}
