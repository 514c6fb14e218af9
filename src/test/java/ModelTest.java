import java.util.ArrayList;
import java.util.Arrays;
import java.util.List;
import java.util.Random;

/** Long runs of calls by chance, each answer held against the Model's. */
public final class ModelTest {
    private static final int RUNS = 1500;

    private final Random chance;
    private final GriefWood wood = new GriefWood();
    private final Model model = new Model();
    private final List<String> calls = new ArrayList<>();

    private ModelTest(long seed) {
        chance = new Random(seed);
    }

    public static void main(String[] args) {
        int wrong = 0;
        long asked = 0;
        for (int run = 0; run < RUNS && wrong < 5; run++) {
            ModelTest t = new ModelTest(run);
            if (!t.run()) {
                wrong++;
                System.out.println("run " + run + ":");
                int from = Math.max(0, t.calls.size() - 25);
                t.calls.subList(from, t.calls.size()).forEach(System.out::println);
            }
            asked += t.calls.size();
        }
        wrong += everyThought();
        System.out.println(asked + " calls in " + RUNS + " runs, " + wrong + " runs not as due");
        if (wrong != 0) {
            System.exit(1);
        }
    }

    private boolean run() {
        int seekers = chance.nextInt(5) == 0 ? chance.nextInt(12) : 1 + chance.nextInt(4);
        for (int i = 0; i < seekers; i++) {
            if (!call("seeker", chance.nextInt(100), chance.nextInt(8), chance.nextInt(8))) {
                return false;
            }
        }
        if (chance.nextInt(4) != 0 && !(tellText(2, wood()) && tellText(2, wood()))) {
            return false;
        }
        int style = chance.nextInt(4);
        while (calls.size() < 500) {
            if (!(style == 0 ? anything() : style == 1 ? texts() : sensible())) {
                return false;
            }
        }
        return true;
    }

    /** One call to both; whether they answer alike. */
    private boolean call(String name, int... a) {
        long got = Calls.call(wood, name, a);
        long want = model.call(name, a);
        calls.add(name + Arrays.toString(a) + " answered " + got + ", due is " + want);
        return got == want;
    }

    private int near(int low, int high) {
        int kind = chance.nextInt(40);
        if (kind == 0) {
            return chance.nextInt();
        }
        if (kind == 1) {
            return low - 1 - chance.nextInt(3);
        }
        if (kind == 2) {
            return high + 1 + chance.nextInt(3);
        }
        if (kind == 3) {
            return low;
        }
        if (kind == 4) {
            return high;
        }
        return low + chance.nextInt(high - low + 1);
    }

    private boolean anything() {
        String name = Calls.NAMES[chance.nextInt(Calls.NAMES.length)];
        int[] bounds = Calls.BOUNDS[Arrays.asList(Calls.NAMES).indexOf(name)];
        int[] a = new int[bounds.length / 2];
        for (int i = 0; i < a.length; i++) {
            a[i] = near(bounds[2 * i], bounds[2 * i + 1]);
        }
        if (name.equals("image")) {
            a[0] &= 1;
        }
        if (name.equals("wish") && chance.nextInt(5) != 0) {
            a[2] = permutation();
        }
        if (name.equals("season") && chance.nextInt(5) != 0) {
            a[0] = fraction();
            a[1] = fraction();
        }
        if (name.equals("game")) {
            a[0] = rows();
        }
        return call(name, a);
    }

    private int permutation() {
        List<Integer> d = new ArrayList<>(List.of(0, 1, 2, 3));
        java.util.Collections.shuffle(d, chance);
        return 1000 * d.get(0) + 100 * d.get(1) + 10 * d.get(2) + d.get(3);
    }

    private int fraction() {
        int below = 1 + chance.nextInt(5);
        return 10 * chance.nextInt(below + 1) + below;
    }

    private int rows() {
        int v = 1;
        int most = 5;
        int n = 1 + chance.nextInt(5);
        for (int i = 0; i < n; i++) {
            most = chance.nextInt(30) == 0 ? chance.nextInt(8) : chance.nextInt(most % 6 + 1);
            v = 10 * v + most;
        }
        return v;
    }

    private boolean texts() {
        int k = near(0, 3);
        String t = k == 0 ? law() : k == 1 ? plan() : k == 2 ? wood() : tables();
        return tellText(k, chance.nextInt(3) == 0 ? t : spoilt(t)) && call("fault", 0) && call("fault", 1)
            && sensible();
    }

    private boolean tellText(int k, String text) {
        String t = text.substring(0, Math.min(400, text.length()));
        for (int i = 0; i < t.length(); i += 20) {
            int[] n = new int[5];
            for (int b = 0; b < 20; b++) {
                n[b / 4] = n[b / 4] << 8 | (i + b < t.length() ? t.charAt(i + b) & 255 : 'z');
            }
            if (!call("feed", n)) {
                return false;
            }
        }
        boolean same = call("end", t.length()) && call("text", k);
        calls.add("    which told: " + t.replace('\n', '|'));
        return same;
    }

    private String spoilt(String t) {
        StringBuilder s = new StringBuilder(t);
        int n = 1 + chance.nextInt(2);
        String[] bits = {";", "(", ")", "not ", "12345", "0", "when", "7", " ", "\n", "or", "and", "/0", "/ 3",
            "\u00e9", "on", "cell", "Oak", "truffle", "99", "1000", "-", "_", "=", "x", "pays", "lead", "\0"};
        for (int i = 0; i < n; i++) {
            int at = chance.nextInt(s.length() + 1);
            int kind = chance.nextInt(3);
            if (kind == 0) {
                s.insert(at, bits[chance.nextInt(bits.length)]);
            } else if (kind == 1) {
                s.delete(at, Math.min(s.length(), at + 1 + chance.nextInt(4)));
            } else {
                s.setLength(at);
            }
        }
        return s.toString();
    }

    private boolean sensible() {
        int i = model.w.seekers.isEmpty() ? 0 : chance.nextInt(model.w.seekers.size());
        switch (chance.nextInt(22)) {
            case 0:
                return chance.nextInt(3) != 0 || tellText(0, law());
            case 1:
                return chance.nextInt(3) != 0 || tellText(1, plan());
            case 2:
                return tellText(2, wood());
            case 3:
                return chance.nextInt(3) != 0 || tellText(3, tables());
            case 4:
            case 5:
                return call("act", 0, i) && call("look", 7) && call("who", i, 1) && call("who", i, 2);
            case 6:
                return call("act", chance.nextInt(4), i) && call("who", i, 3);
            case 7:
                return call("act", 3, i) && call("look", 4) && call("look", 3);
            case 8:
                return call("mornings", 1 + chance.nextInt(3)) && lookAtAll();
            case 9:
                return call("goes", near(1, 60), chance.nextInt(4));
            case 10:
                return call("led", i, near(1, 60), chance.nextInt(2));
            case 11:
                return call("undo") && lookAtAll();
            case 12:
                return call("of", chance.nextInt(8), chance.nextInt(8), 10 * (1 + chance.nextInt(3)) + i);
            case 13:
                return call("who", i, 6);
            case 14:
                return chance.nextInt(4) != 0 || call("image", chance.nextInt(2)) && lookAtAll();
            case 15:
                return call("through", chance.nextInt(2)) && call("stands", chance.nextInt(3));
            case 16:
                return call("book", near(0, Math.max(0, model.w.book.size() - 1)), near(0, 3));
            case 17:
                return call("of", chance.nextInt(8), chance.nextInt(8), chance.nextInt(4));
            case 18:
                return chance.nextInt(8) != 0 || call("state", chance.nextInt());
            case 19:
                return chance.nextInt(8) != 0 || call("set", chance.nextInt(3), i, chance.nextInt(20));
            default:
                return anything();
        }
    }

    private boolean lookAtAll() {
        for (int i = 0; i < 13; i++) {
            if (chance.nextInt(3) == 0 && !call("look", i)) {
                return false;
            }
        }
        return true;
    }

    private String space() {
        return chance.nextInt(12) == 0 ? "\n " : " ";
    }

    private int number() {
        int[] most = {10, 100, 1000, 10000};
        return chance.nextInt(most[chance.nextInt(4)]);
    }

    private String unit() {
        return chance.nextInt(3) == 0 ? String.valueOf(number())
            : Model.VALUES[chance.nextInt(Model.VALUES.length)];
    }

    private String product() {
        StringBuilder s = new StringBuilder(unit());
        while (chance.nextInt(3) == 0) {
            s.append(chance.nextInt(2) == 0 ? "*" + unit() : "/" + (1 + number() % 9999));
        }
        return s.toString();
    }

    private String expression() {
        StringBuilder s = new StringBuilder(product());
        while (chance.nextInt(3) == 0) {
            s.append(chance.nextInt(2) == 0 ? "+" : space() + "-" + space()).append(product());
        }
        return s.toString();
    }

    private String condition(int depth) {
        StringBuilder s = new StringBuilder(clause(depth));
        while (chance.nextInt(3) == 0) {
            s.append(chance.nextInt(2) == 0 ? " and " : " or ").append(clause(depth));
        }
        return s.toString();
    }

    private String clause(int depth) {
        int kind = chance.nextInt(depth > 9 ? 1 : 4);
        if (kind == 1) {
            return "not " + clause(depth + 1);
        }
        if (kind == 2) {
            return "(" + condition(depth + 1) + ")";
        }
        return expression() + "<=>".charAt(chance.nextInt(3)) + expression();
    }

    private String law() {
        StringBuilder s = new StringBuilder();
        int n = chance.nextInt(6);
        String[] words = {"draws ", "stops ", "pays "};
        for (int i = 0; i < n; i++) {
            s.append(words[chance.nextInt(3)]).append(expression());
            if (chance.nextInt(3) != 0) {
                s.append(space()).append("when").append(space()).append(condition(chance.nextInt(3) == 0 ? 0 : 6));
            }
            s.append(";");
        }
        if (chance.nextInt(15) == 0) {
            s.append("pays 1;".repeat(chance.nextInt(18)));
        }
        return s.toString();
    }

    private String plan() {
        StringBuilder s = new StringBuilder();
        int n = chance.nextInt(15) == 0 ? 18 : chance.nextInt(9);
        for (int i = 0; i < n; i++) {
            int on = model.w.morning + chance.nextInt(5);
            s.append("on ").append(on).append(" seeker ").append(
                model.w.seekers.isEmpty() ? 0 : chance.nextInt(model.w.seekers.size()));
            int kind = chance.nextInt(5);
            if (kind == 0) {
                s.append(" console ").append(1 + chance.nextInt(9));
            } else if (kind == 1) {
                s.append(" mourn ").append(1 + chance.nextInt(9));
            } else if (kind == 2) {
                s.append(" stand ").append(chance.nextInt(8)).append(" ").append(chance.nextInt(8));
            } else {
                s.append(" lead ").append(1 + chance.nextInt(20));
            }
            s.append(";");
        }
        return s.toString();
    }

    private String wood() {
        StringBuilder s = new StringBuilder();
        int n = chance.nextInt(15) == 0 ? 18 : chance.nextInt(17);
        for (int i = 0; i < n; i++) {
            s.append("cell").append(space()).append(chance.nextInt(8)).append(" ").append(chance.nextInt(8));
            int kind = chance.nextInt(5);
            s.append(kind == 0 ? " bare" : kind < 3 ? " oak" : " truffle " + (1 + chance.nextInt(9))).append(";");
        }
        return s.toString();
    }

    private String tables() {
        StringBuilder s = new StringBuilder();
        int n = chance.nextInt(15) == 0 ? 18 : chance.nextInt(9);
        for (int i = 0; i < n; i++) {
            s.append("on ").append(model.w.morning + chance.nextInt(4)).append(" table ");
            s.append(1 + chance.nextInt(12)).append(" pays ").append(1 + chance.nextInt(999)).append(";");
        }
        return s.toString();
    }

    /** What depends on its arguments alone, for all of them. */
    private static int everyThought() {
        GriefWood g = new GriefWood();
        Model m = new Model();
        int wrong = 0;
        for (int n = -1; n <= 501; n++) {
            for (int e = 0; e <= 9; e++) {
                wrong += differ(g.eggs(n, e, 0), m.call("eggs", n, e, 0), "eggs " + n + " " + e);
                wrong += differ(g.eggs(n, e, 1), m.call("eggs", n, e, 1), "eggs' step " + n + " " + e);
            }
        }
        for (int rows = -5; rows < 160000; rows++) {
            wrong += differ(g.game(rows), Model.game(rows), "game " + rows);
        }
        for (int w = 0; w <= 21; w++) {
            for (int h = 0; h <= 21; h++) {
                for (int k = -1; k <= w * h; k++) {
                    int x = h == 0 ? 0 : k / h;
                    int y = h == 0 ? 0 : k - h * x;
                    wrong += differ(g.round(w, h, k), m.call("round", w, h, k), "round " + w + " " + h + " " + k);
                    wrong += differ(g.rounds(w, h, x, y), m.call("rounds", w, h, x, y), "rounds " + x + " " + y);
                }
            }
        }
        for (int ab = -2; ab < 70; ab++) {
            for (int cd = -2; cd < 70; cd++) {
                for (int n = -1; n <= 6; n++) {
                    wrong += differ(g.season(ab, cd, n, 0), m.call("season", ab, cd, n, 0), "season " + ab + " " + cd);
                    wrong += differ(g.season(ab, cd, n, 1), m.call("season", ab, cd, n, 1), "season " + ab + " " + cd);
                }
            }
        }
        for (int n = 0; n <= 1001; n += 7) {
            for (int d = -2; d <= n + 1; d++) {
                wrong += differ(g.halves(n, d), Model.halves(n, d), "halves " + n + " " + d);
            }
        }
        for (int n = -1; n <= 31; n++) {
            for (int what = -1; what <= 2; what++) {
                wrong += differ(g.song(n, what), m.call("song", n, what), "song " + n + " " + what);
            }
        }
        return wrong;
    }

    private static int differ(int got, int want, String call) {
        if (got != want) {
            System.out.println(call + " answered " + got + ", due is " + want);
        }
        return got == want ? 0 : 1;
    }
}
