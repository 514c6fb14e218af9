import java.util.ArrayDeque;
import java.util.ArrayList;
import java.util.Arrays;
import java.util.Deque;
import java.util.HashMap;
import java.util.HashSet;
import java.util.List;
import java.util.Map;
import java.util.Set;
import java.util.TreeSet;

/**
 * The document once more, written another way: texts are kept as texts and read by descent each time they are
 * asked, worlds are copied whole, and what is thought is found by trying all there is.
 */
final class Model {
    /** A text's FAULT. */
    static final class Fault extends Exception {
        private static final long serialVersionUID = 1;
        final int what;
        final int place;

        Fault(int what, int place) {
            this.what = what;
            this.place = place;
        }
    }

    static final class Seeker {
        int loss;
        int x;
        int y;
        int solace;
        int found;
        int stops;

        Seeker copy() {
            Seeker s = new Seeker();
            s.loss = loss;
            s.x = x;
            s.y = y;
            s.solace = solace;
            s.found = found;
            s.stops = stops;
            return s;
        }
    }

    static final class Told {
        String law = "";
        int[] finds = new int[8];
        List<Integer> parts = new ArrayList<>();
        List<Integer> heights = new ArrayList<>();
        List<Integer> thirds = new ArrayList<>();
        List<Integer> spades = new ArrayList<>();
        List<int[]> sums = new ArrayList<>();
        String[][] wishes = {{"0123", "0123", "0123", "0123"}, {"0123", "0123", "0123", "0123"}};

        Told copy() {
            Told t = new Told();
            t.law = law;
            t.finds = finds.clone();
            t.parts = new ArrayList<>(parts);
            t.heights = new ArrayList<>(heights);
            t.thirds = new ArrayList<>(thirds);
            t.spades = new ArrayList<>(spades);
            t.sums = new ArrayList<>(sums);
            t.wishes = new String[][] {wishes[0].clone(), wishes[1].clone()};
            return t;
        }
    }

    static final class World {
        boolean thought;
        int state;
        int[][] oak = new int[8][8];
        int[][] truffle = new int[8][8];
        int[][] dug = new int[8][8];
        List<Seeker> seekers = new ArrayList<>();
        int basket;
        int coins;
        int morning;
        List<int[]> book = new ArrayList<>();
        List<List<Object>> plan = new ArrayList<>();
        List<List<Object>> tables = new ArrayList<>();
        int woodLines;
        Told told = new Told();

        World copy() {
            World w = new World();
            w.state = state;
            for (int y = 0; y < 8; y++) {
                w.oak[y] = oak[y].clone();
                w.truffle[y] = truffle[y].clone();
                w.dug[y] = dug[y].clone();
            }
            for (Seeker s : seekers) {
                w.seekers.add(s.copy());
            }
            w.basket = basket;
            w.coins = coins;
            w.morning = morning;
            w.book = new ArrayList<>(book);
            w.plan = new ArrayList<>(plan);
            w.tables = new ArrayList<>(tables);
            w.woodLines = woodLines;
            w.told = told.copy();
            return w;
        }
    }

    World w = new World();
    World image;
    Deque<World> undo = new ArrayDeque<>();
    StringBuilder tape = new StringBuilder();
    int fault;
    int place = -1;

    // ---- tokens and texts

    static final class Tok {
        String s;
        int place;

        boolean number() {
            return s.matches("[0-9]{1,4}");
        }
    }

    static final class Parse {
        final List<Tok> toks = new ArrayList<>();
        int at;

        Parse(String text) {
            int i = 0;
            while (i < text.length()) {
                char c = text.charAt(i);
                if (c == ' ' || c == '\n') {
                    i++;
                    continue;
                }
                int j = i + 1;
                if (letter(c)) {
                    while (j < text.length() && letter(text.charAt(j))) {
                        j++;
                    }
                } else if (digit(c)) {
                    while (j < text.length() && digit(text.charAt(j))) {
                        j++;
                    }
                }
                add(text.substring(i, j), i);
                i = j;
            }
            add("", text.length());
        }

        static boolean letter(char c) {
            return c >= 'a' && c <= 'z' || c >= 'A' && c <= 'Z';
        }

        static boolean digit(char c) {
            return c >= '0' && c <= '9';
        }

        private void add(String s, int place) {
            Tok t = new Tok();
            t.s = s;
            t.place = place;
            toks.add(t);
        }

        Tok now() {
            return toks.get(at);
        }

        boolean is(String s) {
            return now().s.equals(s);
        }

        boolean isOneOf(String... all) {
            return !now().s.isEmpty() && Arrays.asList(all).contains(now().s);
        }

        String any(String... all) throws Fault {
            if (!isOneOf(all)) {
                throw new Fault(1, now().place);
            }
            return toks.get(at++).s;
        }

        int number(int low, int high) throws Fault {
            if (!now().number()) {
                throw new Fault(1, now().place);
            }
            int v = Integer.parseInt(now().s);
            if (v < low || v > high) {
                throw new Fault(2, now().place);
            }
            at++;
            return v;
        }

        boolean atEnd() {
            return at == toks.size() - 1;
        }
    }

    static final String[] VALUES = {"loss", "solace", "oak", "truffle", "dug", "x", "y", "found", "basket",
        "morning"};

    /** Reads THE LAW; answers the value of the first line for the word, or null. */
    static final class LawParse {
        final Parse p;
        final Map<String, Integer> env;
        int open;

        LawParse(String text, Map<String, Integer> env) {
            p = new Parse(text);
            this.env = env;
        }

        int lines;

        Integer ask(String word) throws Fault {
            Integer answer = null;
            while (!p.atEnd()) {
                int place = p.now().place;
                String w = p.any("draws", "stops", "pays");
                if (++lines == 17) {
                    throw new Fault(3, place);
                }
                int v = e();
                boolean so = true;
                if (p.is("when")) {
                    p.any("when");
                    open = 0;
                    so = b();
                }
                p.any(";");
                if (answer == null && w.equals(word) && so) {
                    answer = v;
                }
            }
            return answer;
        }

        boolean b() throws Fault {
            boolean v = a();
            while (p.is("or")) {
                p.any("or");
                v = a() || v;
            }
            return v;
        }

        boolean a() throws Fault {
            boolean v = c();
            while (p.is("and")) {
                p.any("and");
                v = c() && v;
            }
            return v;
        }

        boolean c() throws Fault {
            if (p.isOneOf("not", "(")) {
                if (open == 8) {
                    throw new Fault(3, p.now().place);
                }
                open++;
                boolean v;
                if (p.any("not", "(").equals("not")) {
                    v = !c();
                } else {
                    v = b();
                    p.any(")");
                }
                open--;
                return v;
            }
            int l = e();
            String s = p.any("<", "=", ">");
            int r = e();
            return s.equals("<") ? l < r : s.equals("=") ? l == r : l > r;
        }

        int e() throws Fault {
            int v = t();
            while (p.isOneOf("+", "-")) {
                if (p.any("+", "-").equals("+")) {
                    v += t();
                } else {
                    v -= t();
                }
            }
            return v;
        }

        int t() throws Fault {
            int v = u();
            while (p.isOneOf("*", "/")) {
                if (p.any("*", "/").equals("*")) {
                    v *= u();
                } else {
                    v /= p.number(1, 9999);
                }
            }
            return v;
        }

        int u() throws Fault {
            if (p.now().number()) {
                return p.number(0, 9999);
            }
            return env.getOrDefault(p.any(VALUES), 0);
        }
    }

    static List<List<Object>> lines(int k, String text, int seekers) throws Fault {
        Parse p = new Parse(text);
        List<List<Object>> all = new ArrayList<>();
        while (!p.atEnd()) {
            int place = p.now().place;
            p.any(k == 2 ? "cell" : "on");
            if (all.size() == 16) {
                throw new Fault(3, place);
            }
            List<Object> l = new ArrayList<>();
            if (k == 1) {
                l.add(p.number(0, 999));
                p.any("seeker");
                l.add(p.number(0, seekers - 1));
                String verb = p.any("lead", "console", "mourn", "stand");
                l.add(verb);
                if (verb.equals("stand")) {
                    l.add(p.number(0, 7));
                    l.add(p.number(0, 7));
                } else {
                    l.add(p.number(1, verb.equals("lead") ? 20 : 9));
                }
            } else if (k == 2) {
                l.add(p.number(0, 7));
                l.add(p.number(0, 7));
                String what = p.any("oak", "bare", "truffle");
                l.add(what);
                if (what.equals("truffle")) {
                    l.add(p.number(1, 9));
                }
            } else {
                l.add(p.number(0, 999));
                p.any("table");
                l.add(p.number(1, 99));
                p.any("pays");
                l.add(p.number(1, 999));
            }
            p.any(";");
            all.add(l);
        }
        return all;
    }

    int text(int k) {
        String t = tape.toString();
        tape.setLength(0);
        fault = 0;
        place = -1;
        if (k < 0 || k > 3) {
            return -1;
        }
        try {
            if (k == 0) {
                LawParse lp = new LawParse(t, new HashMap<>());
                lp.ask("");
                w.told.law = t;
                return lp.lines;
            }
            List<List<Object>> l = lines(k, t, w.seekers.size());
            undo.clear();
            if (k == 1) {
                w.plan = l;
            } else if (k == 3) {
                w.tables = l;
            } else {
                w.woodLines = l.size();
                for (List<Object> c : l) {
                    int x = (Integer) c.get(0);
                    int y = (Integer) c.get(1);
                    if (c.get(2).equals("truffle")) {
                        w.truffle[y][x] = (Integer) c.get(3);
                    } else {
                        w.oak[y][x] = c.get(2).equals("oak") ? 1 : 0;
                    }
                }
            }
            return l.size();
        } catch (Fault f) {
            fault = f.what;
            place = f.place;
            return -1;
        }
    }

    // ---- mornings

    int ask(World v, String word, int i, int x, int y) {
        Seeker s = v.seekers.get(i);
        Map<String, Integer> env = new HashMap<>();
        env.put("loss", s.loss);
        env.put("solace", s.solace);
        env.put("found", s.found);
        env.put("oak", v.oak[y][x]);
        env.put("truffle", v.truffle[y][x]);
        env.put("dug", v.dug[y][x]);
        env.put("x", x);
        env.put("y", y);
        env.put("basket", Math.max(0, Math.min(9999, v.basket)));
        env.put("morning", v.morning);
        Integer told;
        try {
            told = new LawParse(v.told.law, env).ask(word);
        } catch (Fault f) {
            throw new IllegalStateException(f);
        }
        if (word.equals("draws")) {
            int d = told != null ? told : v.truffle[y][x] * s.loss - 10 * s.solace + 5 * v.oak[y][x];
            return Math.max(-9999, Math.min(9999, d));
        }
        if (word.equals("stops")) {
            int d = told != null ? told : 10 * s.loss - 100 * s.solace;
            return Math.max(0, Math.min(1000, d));
        }
        int d = told != null ? told : v.truffle[y][x];
        return Math.max(0, Math.min(999, d));
    }

    static final int[][] SIDES = {{0, -1}, {1, 0}, {0, 1}, {-1, 0}};

    int side(World v, int i) {
        Seeker s = v.seekers.get(i);
        int best = -1;
        int most = Integer.MIN_VALUE;
        for (int d = 0; d < 4; d++) {
            int x = s.x + SIDES[d][0];
            int y = s.y + SIDES[d][1];
            if (x >= 0 && y >= 0 && x <= 7 && y <= 7 && ask(v, "draws", i, x, y) > most) {
                most = ask(v, "draws", i, x, y);
                best = d;
            }
        }
        return best;
    }

    void write(World v, int... line) {
        if (!v.thought && v.book.size() < 150) {
            v.book.add(line);
        }
    }

    int dig(World v, int i) {
        Seeker s = v.seekers.get(i);
        s.stops++;
        v.dug[s.y][s.x]++;
        int weight = v.truffle[s.y][s.x];
        if (weight > 0) {
            v.coins += ask(v, "pays", i, s.x, s.y);
            s.found += weight;
            v.basket += weight;
            v.truffle[s.y][s.x] = 0;
            write(v, v.morning, 0, i, weight);
        } else {
            write(v, v.morning, 1, i, 8 * s.y + s.x);
        }
        return weight;
    }

    int step(World v, int i) {
        Seeker s = v.seekers.get(i);
        int d = side(v, i);
        s.x += SIDES[d][0];
        s.y += SIDES[d][1];
        int likely = ask(v, "stops", i, s.x, s.y);
        if (v.thought) {
            return likely >= 500 ? dig(v, i) : 0;
        }
        if (likely > 0) {
            v.state = v.state * 1664525 + 1013904223;
            long top = (v.state & 0xffffffffL) / 256;
            if (top % 1000 < likely) {
                return dig(v, i);
            }
        }
        return 0;
    }

    int morning(World v) {
        int found = 0;
        for (List<Object> l : v.plan) {
            if ((Integer) l.get(0) != v.morning) {
                continue;
            }
            int i = (Integer) l.get(1);
            Seeker s = v.seekers.get(i);
            int n = (Integer) l.get(3);
            String verb = (String) l.get(2);
            if (verb.equals("lead")) {
                for (int k = 0; k < n; k++) {
                    found += step(v, i);
                }
            } else if (verb.equals("stand")) {
                s.x = n;
                s.y = (Integer) l.get(4);
            } else {
                s.solace += verb.equals("console") ? n : -n;
                s.solace = Math.max(0, Math.min(9, s.solace));
            }
        }
        for (List<Object> l : v.tables) {
            int n = (Integer) l.get(1);
            int pays = (Integer) l.get(2);
            if ((Integer) l.get(0) == v.morning && v.basket >= n) {
                v.basket -= n;
                v.coins += pays;
                write(v, v.morning, 2, -1, pays);
            }
        }
        v.morning++;
        return found;
    }

    void keep() {
        undo.addLast(w.copy());
        if (undo.size() > 6) {
            undo.removeFirst();
        }
    }

    World think() {
        World v = w.copy();
        v.thought = true;
        return v;
    }

    // ---- calls

    static boolean in(int v, int a, int b) {
        return a <= v && v <= b;
    }

    static int b(boolean v) {
        return v ? 1 : 0;
    }

    int call(String name, int... a) {
        switch (name) {
            case "state": {
                int was = w.state;
                w.state = a[0];
                undo.clear();
                return was;
            }
            case "seeker": {
                if (!in(a[0], 0, 99) || !in(a[1], 0, 7) || !in(a[2], 0, 7) || w.seekers.size() == 10) {
                    return -1;
                }
                Seeker s = new Seeker();
                s.loss = a[0];
                s.x = a[1];
                s.y = a[2];
                w.seekers.add(s);
                undo.clear();
                return w.seekers.size() - 1;
            }
            case "set":
                return b(set(a[0], a[1], a[2]));
            case "act":
                return b(act(a[0], a[1]));
            case "mornings": {
                if (!in(a[0], 1, 60) || w.morning + a[0] > 9999) {
                    return -1;
                }
                int found = 0;
                for (int i = 0; i < a[0]; i++) {
                    keep();
                    found += morning(w);
                }
                return found;
            }
            case "feed": {
                if (tape.length() > 380) {
                    return -1;
                }
                for (int v : a) {
                    for (int s = 24; s >= 0; s -= 8) {
                        tape.append((char) (v >> s & 255));
                    }
                }
                return tape.length();
            }
            case "end":
                if (!in(a[0], 0, tape.length())) {
                    return 0;
                }
                tape.setLength(a[0]);
                return 1;
            case "text":
                return text(a[0]);
            case "fault":
                return a[0] == 0 ? fault : a[0] == 1 ? place : -1;
            case "of":
                return of(a[0], a[1], a[2]);
            case "who":
                return who(a[0], a[1]);
            case "book":
                return in(a[0], 0, w.book.size() - 1) && in(a[1], 0, 3) ? w.book.get(a[0])[a[1]] : -2;
            case "goes":
                return goes(a[0], a[1]);
            case "led": {
                if (!in(a[0], 0, w.seekers.size() - 1) || !in(a[1], 1, 60) || !in(a[2], 0, 1)) {
                    return -1;
                }
                World v = think();
                int more = 0;
                for (int i = 0; i < a[1]; i++) {
                    more += step(v, a[0]);
                }
                Seeker s = v.seekers.get(a[0]);
                return a[2] == 0 ? more : 8 * s.y + s.x;
            }
            case "undo": {
                if (undo.isEmpty()) {
                    return 0;
                }
                World back = undo.removeLast();
                back.told = w.told;
                w = back;
                return 1;
            }
            case "image":
                if (a[0] == 1) {
                    image = w.copy();
                    return 1;
                }
                if (image == null) {
                    return 0;
                }
                w = image.copy();
                undo.clear();
                return 1;
            case "look":
                return look(a[0]);
            default:
                return thought(name, a);
        }
    }

    boolean set(int what, int who, int v) {
        if (what == 2) {
            if (!in(v, 0, 9999)) {
                return false;
            }
            w.basket = v;
        } else {
            if (!in(who, 0, w.seekers.size() - 1) || !in(what, 0, 1) || !in(v, 0, what == 0 ? 99 : 9)) {
                return false;
            }
            if (what == 0) {
                w.seekers.get(who).loss = v;
            } else {
                w.seekers.get(who).solace = v;
            }
        }
        undo.clear();
        return true;
    }

    boolean act(int what, int who) {
        if (!in(who, 0, w.seekers.size() - 1) || !in(what, 0, 3)) {
            return false;
        }
        Seeker s = w.seekers.get(who);
        if (what == 1 && s.solace == 9 || what == 2 && s.solace == 0) {
            return false;
        }
        keep();
        if (what == 0) {
            step(w, who);
        } else if (what == 3) {
            dig(w, who);
        } else {
            s.solace += what == 1 ? 1 : -1;
        }
        return true;
    }

    int of(int x, int y, int what) {
        if (!in(x, 0, 7) || !in(y, 0, 7)) {
            return -10000;
        }
        if (what == 0) {
            return w.oak[y][x];
        }
        if (what == 1) {
            return w.truffle[y][x];
        }
        if (what == 2) {
            return w.dug[y][x];
        }
        if (what == 3) {
            int set = 0;
            for (int i = 0; i < w.seekers.size(); i++) {
                if (w.seekers.get(i).x == x && w.seekers.get(i).y == y) {
                    set += 1 << i;
                }
            }
            return set;
        }
        for (int i = 0; i < w.seekers.size(); i++) {
            if (what == 10 + i) {
                return ask(w, "draws", i, x, y);
            }
            if (what == 20 + i) {
                return ask(w, "stops", i, x, y);
            }
            if (what == 30 + i) {
                return ask(w, "pays", i, x, y);
            }
        }
        return -10000;
    }

    int who(int i, int what) {
        if (!in(i, 0, w.seekers.size() - 1) || !in(what, 0, 6)) {
            return -1;
        }
        Seeker s = w.seekers.get(i);
        if (what == 6) {
            return side(w, i);
        }
        return new int[] {s.loss, s.x, s.y, s.solace, s.found, s.stops}[what];
    }

    int goes(int n, int what) {
        if (!in(n, 1, 60) || !in(what, 0, 3)) {
            return -1;
        }
        World v = think();
        for (int i = 0; i < n; i++) {
            morning(v);
        }
        int found = 0;
        int stops = 0;
        for (Seeker s : v.seekers) {
            found += s.found;
            stops += s.stops;
        }
        return new int[] {found, v.coins, stops, count(v.truffle)}[what];
    }

    static int count(int[][] cells) {
        int n = 0;
        for (int[] row : cells) {
            for (int c : row) {
                n += c > 0 ? 1 : 0;
            }
        }
        return n;
    }

    int look(int what) {
        if (!in(what, 0, 12)) {
            return -100000;
        }
        int law = 0;
        for (char c : w.told.law.toCharArray()) {
            law += c == ';' ? 1 : 0;
        }
        return new int[] {w.seekers.size(), count(w.oak), count(w.truffle), w.basket, w.coins, w.morning,
            w.book.size(), w.state, law, w.plan.size(), w.woodLines, w.tables.size(), undo.size()}[what];
    }

    // ---- in thought

    static int tell(List<Integer> row, int most, int low, int high, int v) {
        if (v == -1) {
            row.clear();
            return 0;
        }
        if (v < low || v > high || row.size() == most) {
            return -1;
        }
        row.add(v);
        return row.size();
    }

    int thought(String name, int... a) {
        Told t = w.told;
        switch (name) {
            case "through":
                return in(a[0], 0, 1) ? through(a[0]) : -1;
            case "meeting":
                return in(a[0], 0, 1) ? meeting(a[0]) : -1;
            case "stands":
                return in(a[0], 0, 2) ? stands(a[0]) : -1;
            case "finds":
                if (!in(a[0], 1, 7) || !in(a[1], 0, 99)) {
                    return 0;
                }
                t.finds[a[0]] = a[1];
                return 1;
            case "share":
                return in(a[0], 0, 2) && in(a[1], 0, 1) ? share(a[0], a[1]) : -10000;
            case "part":
                return tell(t.parts, 12, 1, 99, a[0]);
            case "cut":
                return in(a[0], 1, 12) && in(a[1], 0, 1) ? cut(a[0], a[1]) : -1;
            case "wish": {
                String row = String.format("%04d", a[2]);
                char[] c = row.toCharArray();
                Arrays.sort(c);
                if (!in(a[0], 0, 1) || !in(a[1], 0, 3) || !new String(c).equals("0123")) {
                    return 0;
                }
                t.wishes[a[0]][a[1]] = row;
                return 1;
            }
            case "pairs":
                return in(a[0], 0, 1) ? pairs(a[0]) : -1;
            case "eggs":
                return in(a[0], 0, 500) && in(a[1], 1, 8) && in(a[2], 0, 1) ? eggs(a[0], a[1], a[2]) : -1;
            case "season":
                return season(a[0], a[1], a[2], a[3]);
            case "height":
                return tell(t.heights, 12, 0, 99, a[0]);
            case "hollow":
                return in(a[0], 0, 4) ? hollow(a[0]) : -1;
            case "third":
                return tell(t.thirds, 9, 1, 60, a[0]);
            case "three": {
                if (!in(a[0], 0, 1)) {
                    return -1;
                }
                int ways = three();
                return a[0] == 1 ? ways : b(ways > 0);
            }
            case "sum":
                if (a[0] == -1) {
                    t.sums.clear();
                    return 0;
                }
                if (!in(a[0], 0, 99) || !in(a[1], 0, 15) || !in(a[2], 0, 15) || t.sums.size() == 8) {
                    return -1;
                }
                t.sums.add(a);
                return t.sums.size();
            case "pounds":
                return in(a[0], 0, 2) ? pounds()[a[0]] : -1;
            case "round":
                return in(a[0], 1, 20) && in(a[1], 1, 20) && in(a[2], 0, a[0] * a[1] - 1)
                    ? spiral(a[0], a[1]).get(a[2]) : -1;
            case "rounds":
                return in(a[0], 1, 20) && in(a[1], 1, 20) && in(a[2], 0, a[0] - 1) && in(a[3], 0, a[1] - 1)
                    ? spiral(a[0], a[1]).indexOf(100 * a[3] + a[2]) : -1;
            case "halves":
                return halves(a[0], a[1]);
            case "song": {
                if (!in(a[0], 0, 30) || !in(a[1], 0, 1)) {
                    return -1;
                }
                int all = 0;
                for (int i = 0; i <= a[0]; i++) {
                    all += verse(i);
                }
                return a[1] == 0 ? verse(a[0]) : all;
            }
            case "spade":
                return tell(t.spades, 10, 0, 1023, a[0]);
            case "spades": {
                if (!in(a[0], 0, 1)) {
                    return -1;
                }
                int left = 0;
                for (int bit = 0; bit < 10; bit++) {
                    int n = 0;
                    for (int s : t.spades) {
                        n += s >> bit & 1;
                    }
                    left += n % 2 << bit;
                }
                return a[0] == 0 ? left : b(t.spades.contains(left));
            }
            case "game":
                return game(a[0]);
            default:
                throw new IllegalArgumentException(name);
        }
    }

    int through(int what) {
        Map<Integer, Integer> weights = new HashMap<>();
        int most = 0;
        for (int way = 0; way < 1 << 14; way++) {
            if (Integer.bitCount(way) != 7) {
                continue;
            }
            int x = 0;
            int y = 0;
            int weight = w.truffle[0][0];
            for (int i = 0; i < 14; i++) {
                if ((way >> i & 1) == 1) {
                    x++;
                } else {
                    y++;
                }
                weight += w.truffle[y][x];
            }
            weights.merge(weight, 1, Integer::sum);
            most = Math.max(most, weight);
        }
        return what == 0 ? most : weights.get(most);
    }

    int meeting(int what) {
        if (w.seekers.isEmpty()) {
            return what == 0 ? 0 : -1;
        }
        int best = Integer.MAX_VALUE;
        int cell = -1;
        for (int y = 0; y < 8; y++) {
            for (int x = 0; x < 8; x++) {
                int all = 0;
                for (Seeker s : w.seekers) {
                    all += Math.abs(s.x - x) + Math.abs(s.y - y);
                }
                if (all < best) {
                    best = all;
                    cell = 8 * y + x;
                }
            }
        }
        return what == 0 ? best : cell;
    }

    int stands(int what) {
        boolean[][] seen = new boolean[8][8];
        int stands = 0;
        int greatest = 0;
        int sides = 0;
        for (int y = 0; y < 8; y++) {
            for (int x = 0; x < 8; x++) {
                if (w.oak[y][x] == 1) {
                    for (int[] d : SIDES) {
                        sides += isOak(x + d[0], y + d[1]) ? 0 : 1;
                    }
                    int size = flood(x, y, seen);
                    stands += size > 0 ? 1 : 0;
                    greatest = Math.max(greatest, size);
                }
            }
        }
        return new int[] {stands, greatest, sides}[what];
    }

    boolean isOak(int x, int y) {
        return in(x, 0, 7) && in(y, 0, 7) && w.oak[y][x] == 1;
    }

    int flood(int x, int y, boolean[][] seen) {
        if (!isOak(x, y) || seen[y][x]) {
            return 0;
        }
        seen[y][x] = true;
        int n = 1;
        for (int[] d : SIDES) {
            n += flood(x + d[0], y + d[1], seen);
        }
        return n;
    }

    static int gcd(int a, int b) {
        return b == 0 ? Math.abs(a) : gcd(b, a % b);
    }

    int share(int i, int what) {
        int[][] orders = {{0, 1, 2}, {0, 2, 1}, {1, 0, 2}, {1, 2, 0}, {2, 0, 1}, {2, 1, 0}};
        int all = 0;
        for (int[] o : orders) {
            int set = 0;
            for (int p : o) {
                int with = set | 1 << p;
                if (p == i) {
                    all += w.told.finds[with] - (set == 0 ? 0 : w.told.finds[set]);
                }
                set = with;
            }
        }
        int g = gcd(all, 6);
        return what == 0 ? all / g : 6 / g;
    }

    int cut(int k, int what) {
        List<Integer> p = w.told.parts;
        if (p.isEmpty()) {
            return what;
        }
        int least = Integer.MAX_VALUE;
        int ways = 0;
        for (int cuts = 0; cuts < 1 << (p.size() - 1); cuts++) {
            if (Integer.bitCount(cuts) + 1 > k) {
                continue;
            }
            int heavy = 0;
            int part = 0;
            for (int i = 0; i < p.size(); i++) {
                part += p.get(i);
                heavy = Math.max(heavy, part);
                if ((cuts >> i & 1) == 1) {
                    part = 0;
                }
            }
            if (heavy < least) {
                least = heavy;
                ways = 0;
            }
            ways += heavy == least ? 1 : 0;
        }
        return what == 0 ? least : ways;
    }

    int pairs(int what) {
        String[] s = w.told.wishes[0];
        String[] b = w.told.wishes[1];
        List<String> steady = new ArrayList<>();
        for (int n = 0; n < 10000; n++) {
            String row = String.format("%04d", n);
            char[] c = row.toCharArray();
            Arrays.sort(c);
            if (!new String(c).equals("0123")) {
                continue;
            }
            boolean ok = true;
            for (int i = 0; i < 4; i++) {
                for (int j = 0; j < 4; j++) {
                    char boy = (char) ('0' + j);
                    char me = (char) ('0' + i);
                    char his = (char) ('0' + row.indexOf(boy));
                    if (s[i].indexOf(boy) < s[i].indexOf(row.charAt(i)) && b[j].indexOf(me) < b[j].indexOf(his)) {
                        ok = false;
                    }
                }
            }
            if (ok) {
                steady.add(row);
            }
        }
        if (what == 1) {
            return steady.size();
        }
        // Seekers who ask get the best that any steady way gives them, each of them.
        String best = steady.get(0);
        for (String row : steady) {
            boolean better = true;
            for (int i = 0; i < 4; i++) {
                better &= s[i].indexOf(row.charAt(i)) <= s[i].indexOf(best.charAt(i));
            }
            best = better ? row : best;
        }
        return Integer.parseInt(best);
    }

    private static int[][] eggTable;

    static int[][] eggTable() {
        if (eggTable == null) {
            eggTable = new int[9][501];
            for (int n = 1; n <= 500; n++) {
                eggTable[0][n] = 1000000;
            }
            for (int e = 1; e <= 8; e++) {
                for (int n = 1; n <= 500; n++) {
                    eggTable[e][n] = Integer.MAX_VALUE;
                    for (int k = 1; k <= n; k++) {
                        int throwsThen = 1 + Math.max(eggTable[e - 1][k - 1], eggTable[e][n - k]);
                        eggTable[e][n] = Math.min(eggTable[e][n], throwsThen);
                    }
                }
            }
        }
        return eggTable;
    }

    int eggs(int n, int e, int what) {
        int[][] f = eggTable();
        if (what == 0) {
            return f[e][n];
        }
        for (int k = 1; k <= n; k++) {
            if (1 + Math.max(f[e - 1][k - 1], f[e][n - k]) == f[e][n]) {
                return k;
            }
        }
        return -1;
    }

    int season(int ab, int cd, int n, int what) {
        Set<Integer> chances = new HashSet<>();
        for (int below = 1; below <= 5; below++) {
            for (int above = 0; above <= below; above++) {
                chances.add(10 * above + below);
            }
        }
        if (!chances.contains(ab) || !chances.contains(cd) || !in(n, 0, 5) || !in(what, 0, 1)) {
            return -1;
        }
        // Over all ways of good and bad seasons, each with the chances above and below multiplied.
        long good = 0;
        long below = 1;
        for (int i = 0; i < n; i++) {
            below *= (long) (ab % 10) * (cd % 10);
        }
        for (int way = 0; way < 1 << n; way++) {
            long chance = below;
            boolean was = true;
            for (int i = 0; i < n; i++) {
                boolean is = (way >> i & 1) == 1;
                int from = was ? ab : cd;
                int above = is ? from / 10 : from % 10 - from / 10;
                chance = chance / (from % 10) * above;
                was = is;
            }
            good += was ? chance : 0;
        }
        int g = gcd((int) good, (int) below);
        return (int) (what == 0 ? good / g : below / g);
    }

    int hollow(int what) {
        List<Integer> h = w.told.heights;
        int n = h.size();
        int rain = 0;
        int pools = 0;
        boolean wet = false;
        int left = 0;
        int right = 0;
        int couples = 0;
        for (int i = 0; i < n; i++) {
            int l = 0;
            int r = 0;
            boolean seenLeft = true;
            boolean seenRight = true;
            for (int j = 0; j < n; j++) {
                if (j <= i) {
                    l = Math.max(l, h.get(j));
                }
                if (j >= i) {
                    r = Math.max(r, h.get(j));
                }
                seenLeft &= j >= i || h.get(j) < h.get(i);
                seenRight &= j <= i || h.get(j) < h.get(i);
                if (j > i) {
                    boolean couple = true;
                    for (int k = i + 1; k < j; k++) {
                        couple &= h.get(k) < h.get(i) && h.get(k) < h.get(j);
                    }
                    couples += couple ? 1 : 0;
                }
            }
            int here = Math.min(l, r) - h.get(i);
            rain += here;
            pools += here > 0 && !wet ? 1 : 0;
            wet = here > 0;
            left += seenLeft ? 1 : 0;
            right += seenRight ? 1 : 0;
        }
        return new int[] {rain, pools, left, right, couples}[what];
    }

    int three() {
        List<Integer> t = w.told.thirds;
        int codes = (int) Math.round(Math.pow(3, t.size()));
        int ways = 0;
        for (int code = 0; code < codes; code++) {
            int[] has = new int[3];
            int rest = code;
            for (int v : t) {
                has[rest % 3] += v;
                rest /= 3;
            }
            ways += has[0] == has[1] && has[1] == has[2] ? 1 : 0;
        }
        return ways;
    }

    int[] pounds() {
        int[] all = new int[3];
        for (int[] s : w.told.sums) {
            for (int i = 0; i < 3; i++) {
                all[i] += s[i];
            }
        }
        while (all[2] > 15) {
            all[2] -= 16;
            all[1]++;
        }
        while (all[1] > 15) {
            all[1] -= 16;
            all[0]++;
        }
        return all;
    }

    static List<Integer> spiral(int wide, int high) {
        boolean[][] gone = new boolean[high][wide];
        List<Integer> all = new ArrayList<>();
        int[][] ways = {{1, 0}, {0, 1}, {-1, 0}, {0, -1}};
        int x = 0;
        int y = 0;
        int d = 0;
        while (true) {
            gone[y][x] = true;
            all.add(100 * y + x);
            if (all.size() == wide * high) {
                return all;
            }
            int nx = x + ways[d][0];
            int ny = y + ways[d][1];
            if (!in(nx, 0, wide - 1) || !in(ny, 0, high - 1) || gone[ny][nx]) {
                d = (d + 1) % 4;
                nx = x + ways[d][0];
                ny = y + ways[d][1];
            }
            x = nx;
            y = ny;
        }
    }

    static int probes(int low, int high, int d) {
        if (low == high) {
            return 0;
        }
        int mid = (low + high) / 2;
        return 1 + (d <= mid ? probes(low, mid, d) : probes(mid + 1, high, d));
    }

    static int halves(int n, int d) {
        if (!in(n, 1, 1000) || d != -1 && !in(d, 1, n)) {
            return -1;
        }
        int most = 0;
        for (int i = 1; i <= n; i++) {
            most = Math.max(most, probes(1, n, i));
        }
        return d == -1 ? most : probes(1, n, d);
    }

    static int verse(int n) {
        int[] v = new int[31];
        v[0] = 1;
        v[1] = 2;
        for (int i = 2; i <= n; i++) {
            v[i] = v[i - 1] + v[i - 2] + i;
        }
        return v[n];
    }

    private static final Map<Set<Integer>, Boolean> WINS = new HashMap<>();

    static Set<Integer> bite(Set<Integer> cells, int cell) {
        Set<Integer> left = new TreeSet<>();
        for (int c : cells) {
            if (c / 10 < cell / 10 || c % 10 < cell % 10) {
                left.add(c);
            }
        }
        return left;
    }

    static boolean wins(Set<Integer> cells) {
        Boolean known = WINS.get(cells);
        if (known != null) {
            return known;
        }
        boolean wins = false;
        for (int c : cells) {
            wins |= c != 0 && !wins(bite(cells, c));
        }
        WINS.put(cells, wins);
        return wins;
    }

    static int game(int rows) {
        String s = String.valueOf(rows);
        if (!s.matches("1[0-5]{1,5}")) {
            return -1;
        }
        Set<Integer> cells = new TreeSet<>();
        for (int y = 0; y + 1 < s.length(); y++) {
            if (y > 0 && s.charAt(y + 1) > s.charAt(y)) {
                return -1;
            }
            for (int x = 0; x < s.charAt(y + 1) - '0'; x++) {
                cells.add(10 * y + x);
            }
        }
        for (int c : cells) {
            if (c != 0 && !wins(bite(cells, c))) {
                return c;
            }
        }
        return -1;
    }
}
