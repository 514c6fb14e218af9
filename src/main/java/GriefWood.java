/** A wood in which whoever has lost most is led to truffles; ../shared/DOC.md says what each call answers. */
public final class GriefWood {
    public static final int NONE = -1;

    private static final int WIDE = 8;
    private static final int CELLS = 64;
    private static final int MOST_SEEKERS = 10;
    private static final int MOST_LOSS = 99;
    private static final int MOST_SOLACE = 9;
    private static final int MOST_BASKET = 9999;
    private static final int LAST_MORNING = 9999;
    private static final int MOST_IN_ONE_CALL = 60;
    private static final int KEPT = 6;
    private static final int TAPE = 400;
    private static final int LINES = 16;
    private static final int MOST_BOOK_LINES = 150;

    private static final int THE_LAW = 0;
    private static final int MORNINGS = 1;
    private static final int WOOD = 2;
    private static final int TABLES = 3;

    private static final int CANNOT_STAND = 1;
    private static final int BEYOND_BOUNDS = 2;
    private static final int TOO_MANY = 3;

    private static final int FOUND = 0;
    private static final int DUG_FOR_NOTHING = 1;
    private static final int SOLD = 2;

    private static final int NO_CELL = NONE - 9999;
    private static final int NO_SHARE = NONE - 9999;
    private static final int NO_LINE = NONE - 1;
    private static final int NO_LOOK = NONE - 99999;

    private final Whole now = new Whole();
    private final Whole pictured = new Whole();
    private boolean hasImage;
    private final Scene thought = new Scene(true);
    private final Scene[] kept = new Scene[KEPT];
    private int keptCount;
    private int keptNext;
    private final char[] tape = new char[TAPE];
    private int tapeLength;
    private final LawReader lawReader = new LawReader();
    private final Lines toldLines = new Lines();
    private int latestFault;
    private int latestPlace = NONE;

    public GriefWood() {
        for (int i = 0; i < kept.length; i++) {
            kept[i] = new Scene(false);
        }
    }

    public int state(int v) {
        int before = now.scene.draws;
        now.scene.draws = v;
        forget();
        return before;
    }

    public int seeker(int loss, int x, int y) {
        Scene s = now.scene;
        if (!within(loss, 0, MOST_LOSS) || !isCell(x, y) || s.seekers >= MOST_SEEKERS) {
            return NONE;
        }
        int i = s.seekers;
        s.loss[i] = loss;
        s.at[i] = WIDE * y + x;
        s.solace[i] = 0;
        s.found[i] = 0;
        s.stops[i] = 0;
        s.seekers = i + 1;
        forget();
        return i;
    }

    public boolean set(int what, int who, int v) {
        Scene s = now.scene;
        if (what == 0 && isSeeker(who) && within(v, 0, MOST_LOSS)) {
            s.loss[who] = v;
        } else if (what == 1 && isSeeker(who) && within(v, 0, MOST_SOLACE)) {
            s.solace[who] = v;
        } else if (what == 2 && within(v, 0, MOST_BASKET)) {
            s.basket = v;
        } else {
            return false;
        }
        forget();
        return true;
    }

    public boolean act(int what, int who) {
        if (!isSeeker(who) || !within(what, 0, 3)) {
            return false;
        }
        Scene s = now.scene;
        if (what == 1 && s.solace[who] >= MOST_SOLACE || what == 2 && s.solace[who] <= 0) {
            return false;
        }
        keep();
        switch (what) {
            case 0:
                now.step(s, who);
                break;
            case 1:
                s.solace[who]++;
                break;
            case 2:
                s.solace[who]--;
                break;
            default:
                now.dig(s, who);
                break;
        }
        return true;
    }

    public int mornings(int n) {
        if (!within(n, 1, MOST_IN_ONE_CALL) || now.scene.morning + n > LAST_MORNING) {
            return NONE;
        }
        int weight = 0;
        for (int i = 0; i < n; i++) {
            keep();
            weight += now.passMorning(now.scene);
        }
        return weight;
    }

    public int feed(int a, int b, int c, int d, int e) {
        if (tapeLength + 20 > TAPE) {
            return NONE;
        }
        feedOne(a);
        feedOne(b);
        feedOne(c);
        feedOne(d);
        feedOne(e);
        return tapeLength;
    }

    public boolean end(int n) {
        if (!within(n, 0, tapeLength)) {
            return false;
        }
        tapeLength = n;
        return true;
    }

    public int text(int k) {
        int length = tapeLength;
        tapeLength = 0;
        latestFault = 0;
        latestPlace = NONE;
        if (!within(k, THE_LAW, TABLES)) {
            return NONE;
        }
        Tokens tokens = lawReader.tokens;
        if (k == THE_LAW) {
            tokens.split(tape, length, LawReader.WORDS);
            lawReader.readAll();
        } else {
            tokens.split(tape, length, Lines.WORDS);
            toldLines.readAll(tokens, k, now.scene.seekers);
        }
        latestFault = tokens.fault;
        latestPlace = tokens.faultPlace;
        return latestFault == 0 ? accept(k) : NONE;
    }

    public int fault(int what) {
        if (what == 0) {
            return latestFault;
        }
        return what == 1 ? latestPlace : NONE;
    }

    public int of(int x, int y, int what) {
        if (!isCell(x, y)) {
            return NO_CELL;
        }
        Scene s = now.scene;
        int cell = WIDE * y + x;
        switch (what) {
            case 0:
                return s.oak[cell];
            case 1:
                return s.truffle[cell];
            case 2:
                return s.dug[cell];
            case 3:
                return s.whoIsOn(cell);
            default:
                return toldOf(cell, what);
        }
    }

    public int who(int seeker, int what) {
        if (!isSeeker(seeker)) {
            return NONE;
        }
        Scene s = now.scene;
        switch (what) {
            case 0:
                return s.loss[seeker];
            case 1:
                return s.at[seeker] % WIDE;
            case 2:
                return s.at[seeker] / WIDE;
            case 3:
                return s.solace[seeker];
            case 4:
                return s.found[seeker];
            case 5:
                return s.stops[seeker];
            case 6:
                return now.sideOf(s, seeker);
            default:
                return NONE;
        }
    }

    public int book(int i, int what) {
        if (!within(i, 0, now.scene.bookLines - 1) || !within(what, 0, 3)) {
            return NO_LINE;
        }
        return now.bookRows[4 * i + what];
    }

    public int goes(int n, int what) {
        if (!within(n, 1, MOST_IN_ONE_CALL) || !within(what, 0, 3)) {
            return NONE;
        }
        thought.copyFrom(now.scene);
        for (int i = 0; i < n; i++) {
            now.passMorning(thought);
        }
        switch (what) {
            case 0:
                return thought.ofAll(thought.found);
            case 1:
                return thought.coins;
            case 2:
                return thought.ofAll(thought.stops);
            default:
                return Scene.countOf(thought.truffle);
        }
    }

    public int led(int seeker, int n, int what) {
        if (!isSeeker(seeker) || !within(n, 1, MOST_IN_ONE_CALL) || !within(what, 0, 1)) {
            return NONE;
        }
        thought.copyFrom(now.scene);
        for (int i = 0; i < n; i++) {
            now.step(thought, seeker);
        }
        return what == 0 ? thought.found[seeker] - now.scene.found[seeker] : thought.at[seeker];
    }

    public int through(int what) {
        return within(what, 0, 1) ? WoodThought.wayThrough(now.scene.truffle, what) : NONE;
    }

    public int meeting(int what) {
        return within(what, 0, 1) ? WoodThought.meetingPlace(now.scene, what) : NONE;
    }

    public int stands(int what) {
        return within(what, 0, 2) ? WoodThought.oaksTogether(now.scene.oak, what) : NONE;
    }

    public boolean finds(int set, int v) {
        if (!within(set, 1, 7) || !within(v, 0, 99)) {
            return false;
        }
        now.told.finds[set] = v;
        return true;
    }

    public int share(int i, int what) {
        if (!within(i, 0, 2) || !within(what, 0, 1)) {
            return NO_SHARE;
        }
        return Thought.justShare(now.told.finds, i, what);
    }

    public int part(int v) {
        return now.told.parts.tell(v);
    }

    public int cut(int k, int what) {
        if (!within(k, 1, 12) || !within(what, 0, 1)) {
            return NONE;
        }
        return Thought.cutRow(now.told.parts, k, what);
    }

    public boolean wish(int which, int i, int row) {
        if (!within(which, 0, 1) || !within(i, 0, 3) || !Wishes.isRow(row)) {
            return false;
        }
        now.told.wishes.tell(which, i, row);
        return true;
    }

    public int pairs(int what) {
        if (what == 0) {
            return now.told.wishes.asked();
        }
        return what == 1 ? now.told.wishes.steadyWays() : NONE;
    }

    public int eggs(int n, int e, int what) {
        if (!within(n, 0, 500) || !within(e, 1, 8) || !within(what, 0, 1)) {
            return NONE;
        }
        return Thought.throwEggs(n, e, what);
    }

    public int season(int ab, int cd, int n, int what) {
        if (!Thought.isChance(ab) || !Thought.isChance(cd) || !within(n, 0, 5) || !within(what, 0, 1)) {
            return NONE;
        }
        return Thought.goodSeason(ab, cd, n, what);
    }

    public int height(int v) {
        return now.told.heights.tell(v);
    }

    public int hollow(int what) {
        Row row = now.told.heights;
        switch (what) {
            case 0:
                return Thought.allRain(row);
            case 1:
                return Thought.pools(row);
            case 2:
                return Thought.seenFrom(row, 0, 1);
            case 3:
                return Thought.seenFrom(row, row.count - 1, -1);
            case 4:
                return Thought.couples(row);
            default:
                return NONE;
        }
    }

    public int third(int v) {
        return now.told.thirds.tell(v);
    }

    public int three(int what) {
        if (!within(what, 0, 1)) {
            return NONE;
        }
        int ways = Thought.waysAmongThree(now.told.thirds);
        return what == 0 ? Math.min(ways, 1) : ways;
    }

    public int sum(int p, int o, int d) {
        return now.told.tellSum(p, o, d);
    }

    public int pounds(int what) {
        int drams = now.told.drams;
        switch (what) {
            case 0:
                return drams / 256;
            case 1:
                return drams / 16 % 16;
            case 2:
                return drams % 16;
            default:
                return NONE;
        }
    }

    public int round(int w, int h, int k) {
        if (!within(w, 1, 20) || !within(h, 1, 20) || !within(k, 0, w * h - 1)) {
            return NONE;
        }
        return WoodThought.cellInRound(w, h, k);
    }

    public int rounds(int w, int h, int x, int y) {
        if (!within(w, 1, 20) || !within(h, 1, 20) || !within(x, 0, w - 1) || !within(y, 0, h - 1)) {
            return NONE;
        }
        return WoodThought.numberInRound(w, h, x, y);
    }

    public int halves(int n, int d) {
        if (!within(n, 1, 1000) || d != NONE && !within(d, 1, n)) {
            return NONE;
        }
        // The upper half is never the smaller one, so what lies least deep is known last.
        return Thought.probes(n, d == NONE ? 1 : d);
    }

    public int song(int n, int what) {
        if (!within(n, 0, 30) || !within(what, 0, 1)) {
            return NONE;
        }
        return Thought.songLines(n, what);
    }

    public int spade(int v) {
        return now.told.spades.tell(v);
    }

    public int spades(int what) {
        if (!within(what, 0, 1)) {
            return NONE;
        }
        int left = now.told.spades.laidOnOneAnother();
        if (what == 0) {
            return left;
        }
        return now.told.spades.has(left) ? 1 : 0;
    }

    public int game(int rows) {
        return WoodThought.isGame(rows) ? WoodThought.winningStart(rows) : NONE;
    }

    public boolean undo() {
        if (keptCount == 0) {
            return false;
        }
        keptCount--;
        keptNext = (keptNext + KEPT - 1) % KEPT;
        now.scene.copyFrom(kept[keptNext]);
        return true;
    }

    public boolean image(boolean taken) {
        if (taken) {
            pictured.copyFrom(now);
            hasImage = true;
        } else if (hasImage) {
            now.copyFrom(pictured);
            forget();
        }
        return hasImage;
    }

    public int look(int what) {
        Scene s = now.scene;
        switch (what) {
            case 0:
                return s.seekers;
            case 1:
                return Scene.countOf(s.oak);
            case 2:
                return Scene.countOf(s.truffle);
            case 3:
                return s.basket;
            case 4:
                return s.coins;
            case 5:
                return s.morning;
            case 6:
                return s.bookLines;
            case 7:
                return s.draws;
            case 8:
                return now.law.lines;
            case 9:
                return now.plan.count;
            case 10:
                return now.woodLines;
            case 11:
                return now.tables.count;
            case 12:
                return keptCount;
            default:
                return NO_LOOK;
        }
    }

    private static boolean within(int v, int least, int most) {
        return v >= least && v <= most;
    }

    private static boolean isCell(int x, int y) {
        return within(x, 0, WIDE - 1) && within(y, 0, WIDE - 1);
    }

    private boolean isSeeker(int i) {
        return within(i, 0, now.scene.seekers - 1);
    }

    private void keep() {
        kept[keptNext].copyFrom(now.scene);
        keptNext = (keptNext + 1) % KEPT;
        keptCount = Math.min(keptCount + 1, KEPT);
    }

    private void forget() {
        keptCount = 0;
    }

    private void feedOne(int number) {
        for (int shift = 24; shift >= 0 && tapeLength < TAPE; shift -= 8) {
            tape[tapeLength] = (char) (number >>> shift & 255);
            tapeLength++;
        }
    }

    private int accept(int k) {
        if (k == THE_LAW) {
            now.law.copyFrom(lawReader.law);
            return now.law.lines;
        }
        forget();
        if (k == MORNINGS) {
            now.plan.copyFrom(toldLines);
        } else if (k == TABLES) {
            now.tables.copyFrom(toldLines);
        } else {
            now.scene.grow(toldLines);
            now.woodLines = toldLines.count;
        }
        return toldLines.count;
    }

    private int toldOf(int cell, int what) {
        int asked = what / 10;
        int i = what % 10;
        if (!within(asked, 1, 3) || !isSeeker(i)) {
            return NO_CELL;
        }
        return now.law.ask(LawReader.DRAWS + asked - 1, now.scene, i, cell);
    }

    /** What mornings change, and so what is kept to be undone; one in thought neither draws nor writes. */
    private static final class Scene {
        static final int[] RIGHTWARDS = {0, 1, 0, -1};
        static final int[] DOWNWARDS = {-1, 0, 1, 0};

        final boolean inThought;
        final int[] oak = new int[CELLS];
        final int[] truffle = new int[CELLS];
        final int[] dug = new int[CELLS];
        final int[] loss = new int[MOST_SEEKERS];
        final int[] at = new int[MOST_SEEKERS];
        final int[] solace = new int[MOST_SEEKERS];
        final int[] found = new int[MOST_SEEKERS];
        final int[] stops = new int[MOST_SEEKERS];
        int seekers;
        int basket;
        int coins;
        int morning;
        int draws;
        int bookLines;

        Scene(boolean inThought) {
            this.inThought = inThought;
        }

        void copyFrom(Scene s) {
            System.arraycopy(s.oak, 0, oak, 0, CELLS);
            System.arraycopy(s.truffle, 0, truffle, 0, CELLS);
            System.arraycopy(s.dug, 0, dug, 0, CELLS);
            System.arraycopy(s.loss, 0, loss, 0, MOST_SEEKERS);
            System.arraycopy(s.at, 0, at, 0, MOST_SEEKERS);
            System.arraycopy(s.solace, 0, solace, 0, MOST_SEEKERS);
            System.arraycopy(s.found, 0, found, 0, MOST_SEEKERS);
            System.arraycopy(s.stops, 0, stops, 0, MOST_SEEKERS);
            seekers = s.seekers;
            basket = s.basket;
            coins = s.coins;
            morning = s.morning;
            draws = s.draws;
            bookLines = s.bookLines;
        }

        /** The CELL up (0), right, down, left (3) of one, or NONE. */
        static int beside(int cell, int side) {
            int x = cell % WIDE + RIGHTWARDS[side & 3];
            int y = cell / WIDE + DOWNWARDS[side & 3];
            return isCell(x, y) ? WIDE * y + x : NONE;
        }

        static int countOf(int[] cells) {
            int n = 0;
            for (int v : cells) {
                if (v != 0) {
                    n++;
                }
            }
            return n;
        }

        int ofAll(int[] each) {
            int all = 0;
            for (int i = 0; i < seekers && i < each.length; i++) {
                all += each[i];
            }
            return all;
        }

        int whoIsOn(int cell) {
            int set = 0;
            for (int i = 0; i < seekers; i++) {
                if (at[i] == cell) {
                    set |= 1 << i;
                }
            }
            return set;
        }

        int drawOf(int m) {
            draws = 1664525 * draws + 1013904223;
            return (draws >>> 8) % Math.max(m, 1);
        }

        /** A bare CELL has no OAK; a TRUFFLE can be with one or without, so neither touches the other. */
        void grow(Lines wood) {
            for (int i = 0; i < wood.count; i++) {
                int cell = WIDE * wood.m[i] + wood.n[i];
                if (wood.verb[i] == Lines.TRUFFLE) {
                    truffle[cell] = wood.weight[i];
                } else {
                    oak[cell] = wood.verb[i] == Lines.OAK ? 1 : 0;
                }
            }
        }
    }

    /** All that THE IMAGE holds, and how a morning goes by, on its own scene or on one in thought. */
    private static final class Whole {
        final Scene scene = new Scene(false);
        final Law law = new Law();
        final Lines plan = new Lines();
        final Lines tables = new Lines();
        final Told told = new Told();
        int woodLines;
        // How many of THE BOOK's lines count is the scene's, so that undoing needs no copy of them.
        final int[] bookRows = new int[4 * MOST_BOOK_LINES];

        void copyFrom(Whole w) {
            scene.copyFrom(w.scene);
            law.copyFrom(w.law);
            plan.copyFrom(w.plan);
            tables.copyFrom(w.tables);
            told.copyFrom(w.told);
            woodLines = w.woodLines;
            System.arraycopy(w.bookRows, 0, bookRows, 0, bookRows.length);
        }

        private void write(Scene s, int what, int who, int howMuch) {
            if (s.inThought || s.bookLines >= MOST_BOOK_LINES) {
                return;
            }
            int from = 4 * s.bookLines;
            bookRows[from] = s.morning;
            bookRows[from + 1] = what;
            bookRows[from + 2] = who;
            bookRows[from + 3] = howMuch;
            s.bookLines++;
        }

        /** Answers the weight that was found. */
        int passMorning(Scene s) {
            int weight = 0;
            for (int i = 0; i < plan.count; i++) {
                if (plan.on[i] == s.morning && plan.who[i] < s.seekers) {
                    weight += follow(s, i);
                }
            }
            for (int i = 0; i < tables.count; i++) {
                if (tables.on[i] == s.morning && s.basket >= tables.n[i]) {
                    s.basket -= tables.n[i];
                    s.coins += tables.m[i];
                    write(s, SOLD, NONE, tables.m[i]);
                }
            }
            s.morning++;
            return weight;
        }

        private int follow(Scene s, int line) {
            int who = plan.who[line];
            int n = plan.n[line];
            int weight = 0;
            switch (plan.verb[line]) {
                case Lines.LEAD:
                    for (int i = 0; i < n; i++) {
                        weight += step(s, who);
                    }
                    break;
                case Lines.CONSOLE:
                    s.solace[who] = Math.min(s.solace[who] + n, MOST_SOLACE);
                    break;
                case Lines.MOURN:
                    s.solace[who] = Math.max(s.solace[who] - n, 0);
                    break;
                default:
                    s.at[who] = WIDE * plan.m[line] + n;
                    break;
            }
            return weight;
        }

        int step(Scene s, int who) {
            int to = Scene.beside(s.at[who], sideOf(s, who));
            if (to != NONE) {
                s.at[who] = to;
            }
            int likely = law.ask(LawReader.STOPS, s, who, s.at[who]);
            boolean halts;
            if (s.inThought) {
                halts = likely >= 500;
            } else {
                halts = likely > 0 && s.drawOf(1000) < likely;
            }
            return halts ? dig(s, who) : 0;
        }

        int dig(Scene s, int who) {
            int cell = s.at[who];
            s.stops[who]++;
            s.dug[cell]++;
            int weight = s.truffle[cell];
            if (weight == 0) {
                write(s, DUG_FOR_NOTHING, who, cell);
                return 0;
            }
            s.coins += law.ask(LawReader.PAYS, s, who, cell);
            s.found[who] += weight;
            s.basket += weight;
            s.truffle[cell] = 0;
            write(s, FOUND, who, weight);
            return weight;
        }

        int sideOf(Scene s, int who) {
            int best = NONE;
            int most = 0;
            for (int side = 0; side < 4; side++) {
                int cell = Scene.beside(s.at[who], side);
                if (cell != NONE) {
                    int draw = law.ask(LawReader.DRAWS, s, who, cell);
                    if (best == NONE || draw > most) {
                        best = side;
                        most = draw;
                    }
                }
            }
            return best;
        }
    }

    /** THE LAW as tokens put in the order in which a stack reckons them. */
    private static final class Law {
        final int[] code = new int[TAPE];
        final int[] word = new int[LINES];
        final int[] from = new int[LINES];
        final int[] when = new int[LINES];
        final int[] until = new int[LINES];
        int lines;
        int used;
        final int[] sight = new int[10];
        // Eight open ( at most hold two values each, and what they enclose some more.
        final int[] stack = new int[32];

        void copyFrom(Law l) {
            System.arraycopy(l.code, 0, code, 0, l.used);
            System.arraycopy(l.word, 0, word, 0, LINES);
            System.arraycopy(l.from, 0, from, 0, LINES);
            System.arraycopy(l.when, 0, when, 0, LINES);
            System.arraycopy(l.until, 0, until, 0, LINES);
            lines = l.lines;
            used = l.used;
        }

        void put(int token) {
            if (used < code.length) {
                code[used] = token;
                used++;
            }
        }

        int ask(int asked, Scene s, int who, int cell) {
            see(s, who, cell);
            for (int i = 0; i < lines; i++) {
                if (word[i] == asked && (when[i] == until[i] || reckon(when[i], until[i]) != 0)) {
                    return held(asked, reckon(from[i], when[i]));
                }
            }
            return held(asked, untold(asked));
        }

        private void see(Scene s, int who, int cell) {
            sight[0] = s.loss[who];
            sight[1] = s.solace[who];
            sight[2] = s.oak[cell];
            sight[3] = s.truffle[cell];
            sight[4] = s.dug[cell];
            sight[5] = cell % WIDE;
            sight[6] = cell / WIDE;
            sight[7] = s.found[who];
            sight[8] = Math.max(0, Math.min(s.basket, MOST_BASKET));
            sight[9] = s.morning;
        }

        private int untold(int asked) {
            switch (asked) {
                case LawReader.DRAWS:
                    return sight[3] * sight[0] - 10 * sight[1] + 5 * sight[2];
                case LawReader.STOPS:
                    return 10 * sight[0] - 100 * sight[1];
                default:
                    return sight[3];
            }
        }

        private static int held(int asked, int v) {
            switch (asked) {
                case LawReader.DRAWS:
                    return Math.max(-9999, Math.min(v, 9999));
                case LawReader.STOPS:
                    return Math.max(0, Math.min(v, 1000));
                default:
                    return Math.max(0, Math.min(v, 999));
            }
        }

        private int reckon(int first, int behind) {
            int top = 0;
            for (int i = first; i < behind && i < used; i++) {
                int token = code[i];
                if (LawReader.isOperand(token)) {
                    if (top < stack.length) {
                        stack[top] = token < Tokens.WORD ? token : sight[token - Tokens.WORD];
                        top++;
                    }
                } else if (token == LawReader.NOT) {
                    if (top > 0) {
                        stack[top - 1] = 1 - stack[top - 1];
                    }
                } else if (top > 1) {
                    top--;
                    stack[top - 1] = joined(token, stack[top - 1], stack[top]);
                }
            }
            return top > 0 ? stack[0] : 0;
        }

        private static int joined(int token, int a, int b) {
            switch (token) {
                case LawReader.PLUS:
                    return a + b;
                case LawReader.MINUS:
                    return a - b;
                case LawReader.TIMES:
                    return a * b;
                case LawReader.BY:
                    return b == 0 ? 0 : a / b;
                case LawReader.LESS:
                    return a < b ? 1 : 0;
                case LawReader.SAME:
                    return a == b ? 1 : 0;
                case LawReader.MORE:
                    return a > b ? 1 : 0;
                case LawReader.AND:
                    return a & b;
                default:
                    return a | b;
            }
        }
    }

    /** The TAPE cut into tokens: a NUMBER as it is, WORD and a keyword's number, SIGN and a sign, END, WRONG. */
    private static final class Tokens {
        static final int WORD = 10000;
        static final int SIGN = 20000;
        static final int END = 30000;
        static final int WRONG = 30001;
        static final int SEMICOLON = SIGN + ';';
        static final String SIGNS = ";+-*/()<=>";

        final int[] token = new int[TAPE + 1];
        final int[] place = new int[TAPE + 1];
        int count;
        int at;
        int fault;
        int faultPlace;

        void split(char[] tape, int length, String words) {
            count = 0;
            at = 0;
            fault = 0;
            faultPlace = NONE;
            for (int i = 0; i < length && i < tape.length; i++) {
                if (tape[i] != ' ' && tape[i] != '\n') {
                    int behind = behindToken(tape, i, length);
                    put(tokenOf(tape, i, behind, words), i);
                    i = Math.max(i, behind - 1);
                }
            }
            put(END, length);
        }

        private void put(int t, int where) {
            if (count < token.length) {
                token[count] = t;
                place[count] = where;
                count++;
            }
        }

        private static int behindToken(char[] tape, int from, int length) {
            int kind = kindOf(tape[from]);
            int i = from + 1;
            while (kind != 0 && i < length && i < tape.length && kindOf(tape[i]) == kind) {
                i++;
            }
            return i;
        }

        /** 1 a letter, 2 a digit, 0 a sign, which stands alone. */
        private static int kindOf(char c) {
            if (c >= 'a' && c <= 'z' || c >= 'A' && c <= 'Z') {
                return 1;
            }
            return c >= '0' && c <= '9' ? 2 : 0;
        }

        private static int tokenOf(char[] tape, int from, int behind, String words) {
            int kind = kindOf(tape[from]);
            if (kind == 1) {
                int number = keyword(words, tape, from, behind);
                return number == NONE ? WRONG : WORD + number;
            }
            if (kind == 0) {
                return SIGNS.indexOf(tape[from]) >= 0 ? SIGN + tape[from] : WRONG;
            }
            if (behind - from > 4) {
                return WRONG;
            }
            int value = 0;
            for (int i = from; i < behind; i++) {
                value = 10 * value + tape[i] - '0';
            }
            return value;
        }

        private static int keyword(String words, char[] tape, int from, int behind) {
            int number = 0;
            int start = 0;
            for (int i = 0; i <= words.length(); i++) {
                if (i == words.length() || words.charAt(i) == ' ') {
                    if (isThere(words, start, i - start, tape, from, behind)) {
                        return number;
                    }
                    number++;
                    start = i + 1;
                }
            }
            return NONE;
        }

        private static boolean isThere(String words, int start, int n, char[] tape, int from, int behind) {
            if (n != behind - from) {
                return false;
            }
            for (int i = 0; i < n; i++) {
                if (words.charAt(start + i) != tape[from + i]) {
                    return false;
                }
            }
            return true;
        }

        int next() {
            return at < count ? token[at] : END;
        }

        boolean goOn() {
            return fault == 0 && next() != END;
        }

        /** Only the first counts: all is read from the left, so it is the first by its place. */
        void refuse(int what) {
            if (fault == 0) {
                fault = what;
                faultPlace = at < count ? place[at] : NONE;
            }
        }

        boolean take(int t) {
            if (fault != 0 || at >= count || token[at] != t) {
                return false;
            }
            at++;
            return true;
        }

        void need(int t) {
            if (!take(t)) {
                refuse(CANNOT_STAND);
            }
        }

        int number(int least, int most) {
            int t = next();
            if (t >= WORD) {
                refuse(CANNOT_STAND);
            } else if (!within(t, least, most)) {
                refuse(BEYOND_BOUNDS);
            } else if (fault == 0) {
                at++;
                return t;
            }
            return least;
        }
    }

    /** Reads THE LAW; what can't be reckoned yet waits on a stack, so nothing here calls itself. */
    private static final class LawReader {
        static final String WORDS =
            "loss solace oak truffle dug x y found basket morning draws stops pays when or and not";
        static final int DRAWS = Tokens.WORD + 10;
        static final int STOPS = Tokens.WORD + 11;
        static final int PAYS = Tokens.WORD + 12;
        static final int WHEN = Tokens.WORD + 13;
        static final int OR = Tokens.WORD + 14;
        static final int AND = Tokens.WORD + 15;
        static final int NOT = Tokens.WORD + 16;
        static final int PLUS = Tokens.SIGN + '+';
        static final int MINUS = Tokens.SIGN + '-';
        static final int TIMES = Tokens.SIGN + '*';
        static final int BY = Tokens.SIGN + '/';
        static final int OPEN = Tokens.SIGN + '(';
        static final int CLOSE = Tokens.SIGN + ')';
        static final int LESS = Tokens.SIGN + '<';
        static final int SAME = Tokens.SIGN + '=';
        static final int MORE = Tokens.SIGN + '>';
        static final int MOST_OPEN = 8;

        final Tokens tokens = new Tokens();
        final Law law = new Law();
        // Eight that are open and, within each of nine, an or and an and.
        final int[] waiting = new int[32];
        int waits;
        int open;
        int brackets;

        static boolean isOperand(int token) {
            return token < DRAWS;
        }

        void readAll() {
            law.lines = 0;
            law.used = 0;
            for (int i = 0; i <= LINES && tokens.goOn(); i++) {
                int word = tokens.next();
                if (!within(word, DRAWS, PAYS)) {
                    tokens.refuse(CANNOT_STAND);
                } else if (i == LINES) {
                    tokens.refuse(TOO_MANY);
                } else {
                    readLine(i, word);
                }
            }
        }

        private void readLine(int i, int word) {
            tokens.take(word);
            law.word[i] = word;
            law.from[i] = law.used;
            expression();
            law.when[i] = law.used;
            if (tokens.take(WHEN)) {
                condition();
            }
            law.until[i] = law.used;
            tokens.need(Tokens.SEMICOLON);
            law.lines = i + 1;
        }

        private void expression() {
            int adding = NONE;
            operand();
            for (int i = 0; i < TAPE && tokens.goOn(); i++) {
                int sign = tokens.next();
                if (tokens.take(TIMES)) {
                    operand();
                    law.put(TIMES);
                } else if (tokens.take(BY)) {
                    law.put(tokens.number(1, 9999));
                    law.put(BY);
                } else if (tokens.take(PLUS) || tokens.take(MINUS)) {
                    if (adding != NONE) {
                        law.put(adding);
                    }
                    adding = sign;
                    operand();
                } else {
                    break;
                }
            }
            if (adding != NONE) {
                law.put(adding);
            }
        }

        private void operand() {
            int token = tokens.next();
            if (isOperand(token) && tokens.take(token)) {
                law.put(token);
            } else {
                tokens.refuse(CANNOT_STAND);
            }
        }

        private void condition() {
            waits = 0;
            open = 0;
            brackets = 0;
            boolean more = true;
            for (int i = 0; i < TAPE && more; i++) {
                openAll();
                expression();
                int sign = comparing();
                expression();
                law.put(sign);
                closeAll();
                more = joins();
            }
            if (brackets > 0) {
                tokens.refuse(CANNOT_STAND);
            }
            settle(OPEN, OPEN);
        }

        private void openAll() {
            for (int i = 0; i <= MOST_OPEN; i++) {
                int token = tokens.next();
                if (token != OPEN && token != NOT) {
                    return;
                }
                if (open == MOST_OPEN) {
                    tokens.refuse(TOO_MANY);
                }
                if (!tokens.take(token)) {
                    return;
                }
                open++;
                if (token == OPEN) {
                    brackets++;
                }
                hold(token);
            }
        }

        private int comparing() {
            int sign = tokens.next();
            if (!tokens.take(LESS) && !tokens.take(SAME)) {
                tokens.need(MORE);
            }
            return sign;
        }

        private void closeAll() {
            settleNots();
            for (int i = 0; i < MOST_OPEN && brackets > 0 && tokens.take(CLOSE); i++) {
                settle(OPEN, OPEN);
                waits = Math.max(waits - 1, 0);
                open--;
                brackets--;
                settleNots();
            }
        }

        private boolean joins() {
            if (tokens.take(AND)) {
                settle(OPEN, OR);
                hold(AND);
                return true;
            }
            if (tokens.take(OR)) {
                settle(OPEN, OPEN);
                hold(OR);
                return true;
            }
            return false;
        }

        private void hold(int token) {
            if (waits < waiting.length) {
                waiting[waits] = token;
                waits++;
            }
        }

        /** What waits above one of the two told is reckoned. */
        private void settle(int one, int other) {
            while (waits > 0 && waiting[waits - 1] != one && waiting[waits - 1] != other) {
                waits--;
                law.put(waiting[waits]);
            }
        }

        private void settleNots() {
            while (waits > 0 && waiting[waits - 1] == NOT) {
                waits--;
                open--;
                law.put(NOT);
            }
        }
    }

    /** Up to 16 lines of MORNINGS (n, m: its NUMBERS), WOOD (n, m: X, Y) or TABLES (n, m: weight, COINS). */
    private static final class Lines {
        static final String WORDS = "on seeker lead console mourn stand cell oak bare truffle table pays";
        static final int ON = Tokens.WORD;
        static final int SEEKER = Tokens.WORD + 1;
        static final int LEAD = Tokens.WORD + 2;
        static final int CONSOLE = Tokens.WORD + 3;
        static final int MOURN = Tokens.WORD + 4;
        static final int STAND = Tokens.WORD + 5;
        static final int CELL = Tokens.WORD + 6;
        static final int OAK = Tokens.WORD + 7;
        static final int BARE = Tokens.WORD + 8;
        static final int TRUFFLE = Tokens.WORD + 9;
        static final int TABLE = Tokens.WORD + 10;
        static final int PAYS = Tokens.WORD + 11;

        final int[] on = new int[LINES];
        final int[] who = new int[LINES];
        final int[] verb = new int[LINES];
        final int[] n = new int[LINES];
        final int[] m = new int[LINES];
        final int[] weight = new int[LINES];
        int count;

        void copyFrom(Lines l) {
            System.arraycopy(l.on, 0, on, 0, LINES);
            System.arraycopy(l.who, 0, who, 0, LINES);
            System.arraycopy(l.verb, 0, verb, 0, LINES);
            System.arraycopy(l.n, 0, n, 0, LINES);
            System.arraycopy(l.m, 0, m, 0, LINES);
            System.arraycopy(l.weight, 0, weight, 0, LINES);
            count = l.count;
        }

        void readAll(Tokens t, int k, int seekers) {
            int first = k == WOOD ? CELL : ON;
            count = 0;
            for (int i = 0; i <= LINES && t.goOn(); i++) {
                if (t.next() != first) {
                    t.refuse(CANNOT_STAND);
                } else if (i == LINES) {
                    t.refuse(TOO_MANY);
                } else {
                    t.take(first);
                    readLine(t, i, k, seekers);
                    t.need(Tokens.SEMICOLON);
                    count = i + 1;
                }
            }
        }

        private void readLine(Tokens t, int i, int k, int seekers) {
            if (k == MORNINGS) {
                readMorning(t, i, seekers);
            } else if (k == WOOD) {
                readCell(t, i);
            } else {
                readTable(t, i);
            }
        }

        private void readMorning(Tokens t, int i, int seekers) {
            on[i] = t.number(0, 999);
            t.need(SEEKER);
            who[i] = t.number(0, seekers - 1);
            verb[i] = t.next();
            if (t.take(LEAD)) {
                n[i] = t.number(1, 20);
            } else if (t.take(CONSOLE) || t.take(MOURN)) {
                n[i] = t.number(1, 9);
            } else {
                t.need(STAND);
                n[i] = t.number(0, WIDE - 1);
                m[i] = t.number(0, WIDE - 1);
            }
        }

        private void readCell(Tokens t, int i) {
            n[i] = t.number(0, WIDE - 1);
            m[i] = t.number(0, WIDE - 1);
            verb[i] = t.next();
            if (t.take(TRUFFLE)) {
                weight[i] = t.number(1, 9);
            } else if (!t.take(OAK)) {
                t.need(BARE);
            }
        }

        private void readTable(Tokens t, int i) {
            on[i] = t.number(0, 999);
            t.need(TABLE);
            n[i] = t.number(1, 99);
            t.need(PAYS);
            m[i] = t.number(1, 999);
        }
    }

    /** A row that is told number by number. */
    private static final class Row {
        final int[] v;
        final int least;
        final int most;
        int count;

        Row(int size, int least, int most) {
            this.v = new int[Math.max(size, 0)];
            this.least = least;
            this.most = most;
        }

        int tell(int number) {
            if (number == NONE) {
                count = 0;
                return count;
            }
            if (!within(number, least, most) || count >= v.length) {
                return NONE;
            }
            v[count] = number;
            count++;
            return count;
        }

        void copyFrom(Row r) {
            System.arraycopy(r.v, 0, v, 0, Math.min(v.length, r.v.length));
            count = r.count;
        }

        int greatest(int from, int behind) {
            int best = NONE;
            for (int i = Math.max(from, 0); i < behind && i < count; i++) {
                best = Math.max(best, v[i]);
            }
            return best;
        }

        int total() {
            int all = 0;
            for (int i = 0; i < count; i++) {
                all += v[i];
            }
            return all;
        }

        int laidOnOneAnother() {
            int left = 0;
            for (int i = 0; i < count; i++) {
                left ^= v[i];
            }
            return left;
        }

        boolean has(int number) {
            for (int i = 0; i < count; i++) {
                if (v[i] == number) {
                    return true;
                }
            }
            return false;
        }
    }

    /** What is told for thought. */
    private static final class Told {
        static final int MOST_SUMS = 8;

        final int[] finds = new int[8];
        final Row parts = new Row(12, 1, 99);
        final Row heights = new Row(12, 0, 99);
        final Row thirds = new Row(9, 1, 60);
        final Row spades = new Row(10, 0, 1023);
        final Wishes wishes = new Wishes();
        int sums;
        int drams;

        void copyFrom(Told t) {
            System.arraycopy(t.finds, 0, finds, 0, finds.length);
            parts.copyFrom(t.parts);
            heights.copyFrom(t.heights);
            thirds.copyFrom(t.thirds);
            spades.copyFrom(t.spades);
            wishes.copyFrom(t.wishes);
            sums = t.sums;
            drams = t.drams;
        }

        int tellSum(int p, int o, int d) {
            if (p == NONE) {
                sums = 0;
                drams = 0;
                return sums;
            }
            if (!within(p, 0, 99) || !within(o, 0, 15) || !within(d, 0, 15) || sums >= MOST_SUMS) {
                return NONE;
            }
            drams += 256 * p + 16 * o + d;
            sums++;
            return sums;
        }
    }

    /** PAIRS: four seekers and four boys with the ranks that each gives to each of the others. */
    private static final class Wishes {
        static final int MANY = 4;

        // The rank that one (0 .. 3 seekers, 4 .. 7 boys) gives to each of the other side.
        final int[][] rank = new int[2 * MANY][MANY];

        Wishes() {
            for (int i = 0; i < rank.length; i++) {
                for (int other = 0; other < MANY; other++) {
                    rank[i][other] = other;
                }
            }
        }

        static boolean isRow(int row) {
            if (!within(row, 0, 3210)) {
                return false;
            }
            int seen = 0;
            for (int i = 0, rest = row; i < MANY; i++, rest /= 10) {
                seen |= 1 << rest % 10;
            }
            return seen == 15;
        }

        /** Of four digits, from the left, the i-th. */
        private static int digit(int row, int i) {
            int rest = row;
            for (int k = i; k < MANY - 1; k++) {
                rest /= 10;
            }
            return rest % 10;
        }

        void tell(int which, int i, int row) {
            for (int place = 0; place < MANY; place++) {
                rank[MANY * which + i][digit(row, place)] = place;
            }
        }

        void copyFrom(Wishes w) {
            for (int i = 0; i < rank.length; i++) {
                System.arraycopy(w.rank[i], 0, rank[i], 0, MANY);
            }
        }

        /** Seekers ask, boys choose: the row of whom each seeker gets. */
        int asked() {
            int[] keeps = {NONE, NONE, NONE, NONE};
            int[] asks = new int[MANY];
            for (int i = 0; i < MANY; i++) {
                int free = i;
                for (int k = 0; k < MANY * MANY && free != NONE; k++) {
                    int boy = atRank(free, asks[free]);
                    asks[free]++;
                    int other = keeps[boy];
                    if (other == NONE || rank[MANY + boy][free] < rank[MANY + boy][other]) {
                        keeps[boy] = free;
                        free = other;
                    }
                }
            }
            int row = 0;
            for (int seeker = 0; seeker < MANY; seeker++) {
                row = 10 * row + keptBy(keeps, seeker);
            }
            return row;
        }

        private int atRank(int who, int place) {
            for (int other = 0; other < MANY; other++) {
                if (rank[who][other] == place) {
                    return other;
                }
            }
            return 0;
        }

        private static int keptBy(int[] keeps, int seeker) {
            for (int boy = 0; boy < keeps.length; boy++) {
                if (keeps[boy] == seeker) {
                    return boy;
                }
            }
            return 0;
        }

        int steadyWays() {
            int[] gets = new int[MANY];
            int ways = 0;
            for (int code = 0; code < 256; code++) {
                int seen = 0;
                for (int i = 0; i < MANY; i++) {
                    gets[i] = code >> 2 * i & 3;
                    seen |= 1 << gets[i];
                }
                if (seen == 15 && isSteady(gets)) {
                    ways++;
                }
            }
            return ways;
        }

        private boolean isSteady(int[] gets) {
            for (int a = 0; a < MANY; a++) {
                for (int b = 0; b < MANY; b++) {
                    int boy = gets[b];
                    if (rank[a][boy] < rank[a][gets[a]] && rank[MANY + boy][a] < rank[MANY + boy][b]) {
                        return false;
                    }
                }
            }
            return true;
        }
    }

    /** What is thought of woods: CELLS, OAKS, ways. */
    private static final class WoodThought {
        static final long NOT_RIGHTMOST = 0x7f7f7f7f7f7f7f7fL;
        static final long NOT_LEFTMOST = 0xfefefefefefefefeL;
        static final int ROWS = 5;
        // The empty wood's number: each row's length is told by where its bit stands among ten.
        static final int EMPTY = 31;

        private WoodThought() {
        }

        static int wayThrough(int[] truffle, int what) {
            int[] best = new int[WIDE];
            int[] ways = new int[WIDE];
            for (int cell = 0; cell < CELLS; cell++) {
                int x = cell % WIDE;
                int above = cell < WIDE ? NONE : best[x];
                int left = x == 0 ? NONE : best[x - 1];
                int most = Math.max(above, left);
                int many = above == most && cell >= WIDE ? ways[x] : 0;
                if (left == most && x > 0) {
                    many += ways[x - 1];
                }
                best[x] = Math.max(most, 0) + truffle[cell];
                ways[x] = cell == 0 ? 1 : many;
            }
            return what == 0 ? best[WIDE - 1] : ways[WIDE - 1];
        }

        static int meetingPlace(Scene s, int what) {
            if (s.seekers == 0) {
                return what == 0 ? 0 : NONE;
            }
            int best = 0;
            int fewest = stepsTo(s, 0);
            for (int cell = 1; cell < CELLS; cell++) {
                int steps = stepsTo(s, cell);
                if (steps < fewest) {
                    fewest = steps;
                    best = cell;
                }
            }
            return what == 0 ? fewest : best;
        }

        private static int stepsTo(Scene s, int cell) {
            int steps = 0;
            for (int i = 0; i < s.seekers; i++) {
                steps += Math.abs(s.at[i] % WIDE - cell % WIDE) + Math.abs(s.at[i] / WIDE - cell / WIDE);
            }
            return steps;
        }

        static int oaksTogether(int[] oak, int what) {
            long oaks = 0;
            for (int cell = 0; cell < CELLS; cell++) {
                oaks |= (long) oak[cell] << cell;
            }
            if (what == 2) {
                int couples = Long.bitCount(oaks & oaks << WIDE) + Long.bitCount(oaks & oaks << 1 & NOT_LEFTMOST);
                return 4 * Long.bitCount(oaks) - 2 * couples;
            }
            int stands = 0;
            int greatest = 0;
            long left = oaks;
            for (int i = 0; i < CELLS && left != 0; i++) {
                long stand = standAround(left & -left, left);
                left &= ~stand;
                stands++;
                greatest = Math.max(greatest, Long.bitCount(stand));
            }
            return what == 0 ? stands : greatest;
        }

        private static long standAround(long one, long oaks) {
            long stand = one;
            for (int i = 0; i < CELLS; i++) {
                long beside = stand << WIDE | stand >>> WIDE
                    | stand << 1 & NOT_LEFTMOST | stand >>> 1 & NOT_RIGHTMOST;
                stand |= beside & oaks;
            }
            return stand;
        }

        /** How many CELLS are gone round before the ring that lies so far inwards. */
        private static int beforeRing(int w, int h, int ring) {
            return w * h - Math.max(w - 2 * ring, 0) * Math.max(h - 2 * ring, 0);
        }

        static int cellInRound(int w, int h, int k) {
            int ring = 0;
            while (ring < 10 && beforeRing(w, h, ring + 1) <= k) {
                ring++;
            }
            int across = w - 2 * ring - 1;
            int down = h - 2 * ring - 1;
            int rest = k - beforeRing(w, h, ring);
            int x = ring;
            int y = ring;
            if (rest <= across) {
                x += rest;
            } else if (rest <= across + down) {
                x += across;
                y += rest - across;
            } else if (rest <= 2 * across + down) {
                x += 2 * across + down - rest;
                y += down;
            } else {
                y += 2 * across + 2 * down - rest;
            }
            return 100 * y + x;
        }

        static int numberInRound(int w, int h, int x, int y) {
            int ring = Math.min(Math.min(x, y), Math.min(w - 1 - x, h - 1 - y));
            int across = w - 2 * ring - 1;
            int down = h - 2 * ring - 1;
            int rightwards = x - ring;
            int downwards = y - ring;
            int before = beforeRing(w, h, ring);
            if (downwards == 0) {
                return before + rightwards;
            }
            if (rightwards == across) {
                return before + across + downwards;
            }
            if (downwards == down) {
                return before + 2 * across + down - rightwards;
            }
            return before + 2 * across + 2 * down - downwards;
        }

        static boolean isGame(int rows) {
            int rest = rows;
            int below = 0;
            for (int digits = 0; digits <= ROWS; digits++) {
                if (rest == 1) {
                    return digits > 0;
                }
                int digit = rest % 10;
                if (rest <= 0 || digit > 5 || digit < below) {
                    return false;
                }
                below = digit;
                rest /= 10;
            }
            return false;
        }

        /** Woods are gone through from the least number up, since each bite leaves a lesser one. */
        static int winningStart(int rows) {
            int whole = numberOf(rows);
            long[] lost = new long[16];
            int[] lengths = new int[ROWS];
            for (int wood = EMPTY + 1; wood < whole; wood++) {
                if (Integer.bitCount(wood) == ROWS) {
                    tellLengths(wood, lengths);
                    if (winningBite(lengths, lost) == NONE) {
                        lost[wood >> 6] |= 1L << (wood & 63);
                    }
                }
            }
            tellLengths(whole, lengths);
            return winningBite(lengths, lost);
        }

        private static int numberOf(int rows) {
            int digits = 0;
            for (int rest = rows; rest > 9 && digits < ROWS; rest /= 10) {
                digits++;
            }
            int wood = EMPTY >> digits;
            int rest = rows;
            for (int y = digits - 1; y >= 0; y--) {
                wood |= 1 << (rest % 10 + ROWS - 1 - y);
                rest /= 10;
            }
            return wood;
        }

        private static void tellLengths(int wood, int[] lengths) {
            int y = 0;
            for (int bit = 2 * ROWS - 1; bit >= 0 && y < lengths.length; bit--) {
                if ((wood >> bit & 1) != 0) {
                    lengths[y] = bit - (ROWS - 1 - y);
                    y++;
                }
            }
        }

        private static int winningBite(int[] lengths, long[] lost) {
            for (int y = 0; y < lengths.length; y++) {
                for (int x = 0; x < lengths[y]; x++) {
                    int left = bitten(lengths, x, y);
                    if ((lost[left >> 6 & 15] >>> (left & 63) & 1) != 0) {
                        return 10 * y + x;
                    }
                }
            }
            return NONE;
        }

        private static int bitten(int[] lengths, int x, int y) {
            int wood = 0;
            for (int i = 0; i < lengths.length; i++) {
                int length = i < y ? lengths[i] : Math.min(lengths[i], x);
                wood |= 1 << (length + ROWS - 1 - i);
            }
            return wood;
        }
    }

    /** What is thought of numbers and rows. */
    private static final class Thought {
        private Thought() {
        }

        private static long commonPart(long a, long b) {
            long more = Math.abs(a);
            long less = Math.abs(b);
            for (int i = 0; i < 200 && less != 0; i++) {
                long rest = more % less;
                more = less;
                less = rest;
            }
            return Math.max(more, 1);
        }

        static int justShare(int[] finds, int i, int what) {
            int me = 1 << i;
            int one = 1 << (i + 1) % 3;
            int other = 1 << (i + 2) % 3;
            // He is first in two orders, last in two, and behind each of the others alone in one.
            int six = 2 * finds[me] + finds[me | one] - finds[one] + finds[me | other] - finds[other]
                + 2 * (finds[7] - finds[one | other]);
            int common = (int) commonPart(six, 6);
            return what == 0 ? six / common : 6 / common;
        }

        static int cutRow(Row row, int k, int what) {
            int least = Math.max(row.greatest(0, row.count), 0);
            int most = row.total();
            for (int i = 0; i < 32 && least < most; i++) {
                int middle = (least + most) / 2;
                if (partsWithin(row, middle) <= k) {
                    most = middle;
                } else {
                    least = middle + 1;
                }
            }
            return what == 0 ? least : waysToCut(row, k, least);
        }

        /** The fewest parts, if none may be heavier than the limit, which no weight of the row is. */
        private static int partsWithin(Row row, int limit) {
            int parts = 1;
            int part = 0;
            for (int i = 0; i < row.count; i++) {
                if (part + row.v[i] > limit) {
                    parts++;
                    part = 0;
                }
                part += row.v[i];
            }
            return parts;
        }

        private static int waysToCut(Row row, int k, int limit) {
            // In how many ways the first i weights are so many parts, counted for one part more each time.
            int[] ways = new int[row.count + 1];
            ways[0] = 1;
            int all = row.count == 0 ? 1 : 0;
            for (int parts = 1; parts <= k; parts++) {
                for (int i = row.count; i >= 0; i--) {
                    ways[i] = waysWithLastPart(row, ways, i, limit);
                }
                all += ways[row.count];
            }
            return all;
        }

        private static int waysWithLastPart(Row row, int[] ways, int behind, int limit) {
            int all = 0;
            int part = 0;
            for (int from = behind - 1; from >= 0; from--) {
                part += row.v[from];
                if (part <= limit) {
                    all += ways[from];
                }
            }
            return all;
        }

        static int throwEggs(int n, int e, int what) {
            if (n == 0) {
                return what == 0 ? 0 : NONE;
            }
            // How many steps can be told apart by so many throws, with 0 .. e eggs.
            int[] told = new int[Math.max(e, 0) + 1];
            int throwsSoFar = 0;
            int before = 0;
            while (told[told.length - 1] < n && throwsSoFar < n) {
                before = told[told.length - 1];
                for (int eggs = told.length - 1; eggs > 0; eggs--) {
                    told[eggs] += told[eggs - 1] + 1;
                }
                throwsSoFar++;
            }
            return what == 0 ? throwsSoFar : n - before;
        }

        static boolean isChance(int ab) {
            return ab >= 0 && within(ab / 10, 0, 5) && within(ab % 10, 1, 5) && ab / 10 <= ab % 10;
        }

        static int goodSeason(int ab, int cd, int n, int what) {
            long good = 1;
            long all = 1;
            for (int i = 0; i < n; i++) {
                long next = good * (ab / 10) * (cd % 10) + (all - good) * (cd / 10) * (ab % 10);
                long of = all * (ab % 10) * (cd % 10);
                long common = commonPart(next, of);
                good = next / common;
                all = of / common;
            }
            return (int) (what == 0 ? good : all);
        }

        private static int rainOn(Row row, int i) {
            return Math.min(row.greatest(0, i + 1), row.greatest(i, row.count)) - row.v[i];
        }

        static int allRain(Row row) {
            int all = 0;
            for (int i = 0; i < row.count; i++) {
                all += rainOn(row, i);
            }
            return all;
        }

        static int pools(Row row) {
            int pools = 0;
            boolean wet = false;
            for (int i = 0; i < row.count; i++) {
                boolean rain = rainOn(row, i) > 0;
                if (rain && !wet) {
                    pools++;
                }
                wet = rain;
            }
            return pools;
        }

        static int seenFrom(Row row, int first, int way) {
            int seen = 0;
            int highest = NONE;
            int i = first;
            for (int n = 0; n < row.count && within(i, 0, row.count - 1); n++) {
                if (row.v[i] > highest) {
                    highest = row.v[i];
                    seen++;
                }
                i += way;
            }
            return seen;
        }

        static int couples(Row row) {
            int couples = 0;
            for (int i = 0; i < row.count; i++) {
                for (int k = i + 1; k < row.count; k++) {
                    if (row.greatest(i + 1, k) < Math.min(row.v[i], row.v[k])) {
                        couples++;
                    }
                }
            }
            return couples;
        }

        static int waysAmongThree(Row row) {
            int each = row.total() / 3;
            return 3 * each == row.total() ? waysFrom(row, 0, each, each, each) : 0;
        }

        /** How many ways there are for the weights from i on, if the three can still take so much each. */
        private static int waysFrom(Row row, int i, int a, int b, int c) {
            if (a < 0 || b < 0 || c < 0) {
                return 0;
            }
            if (i >= row.count) {
                return 1;
            }
            int weight = row.v[i];
            return waysFrom(row, i + 1, a - weight, b, c)
                + waysFrom(row, i + 1, a, b - weight, c)
                + waysFrom(row, i + 1, a, b, c - weight);
        }

        static int probes(int n, int d) {
            int least = 1;
            int most = n;
            int probes = 0;
            while (least < most && probes < n) {
                int middle = (least + most) / 2;
                if (d <= middle) {
                    most = middle;
                } else {
                    least = middle + 1;
                }
                probes++;
            }
            return probes;
        }

        static int songLines(int n, int what) {
            int verse = 1;
            int next = 2;
            int together = 1;
            for (int i = 1; i <= n; i++) {
                int behind = verse + next + i + 1;
                verse = next;
                next = behind;
                together += verse;
            }
            return what == 0 ? verse : together;
        }
    }
}
