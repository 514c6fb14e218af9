import java.io.IOException;
import java.lang.reflect.Constructor;
import java.lang.reflect.Field;
import java.lang.reflect.Method;
import java.lang.reflect.Modifier;
import java.nio.file.Files;
import java.nio.file.Path;
import java.util.Arrays;
import java.util.Set;
import java.util.TreeSet;
import java.util.regex.Matcher;
import java.util.regex.Pattern;

/** The public face is the document's, and the file keeps to what of LANGUAGE.md can be seen by a program. */
public final class FaceTest {
    private static final Due DUE = new Due();
    private static final String FACE = "int state(int); int seeker(int,int,int); boolean set(int,int,int);"
        + "boolean act(int,int); int mornings(int); int feed(int,int,int,int,int); boolean end(int); int text(int);"
        + "int fault(int); int of(int,int,int); int who(int,int); int book(int,int); int goes(int,int);"
        + "int led(int,int,int); int through(int); int meeting(int); int stands(int); boolean finds(int,int);"
        + "int share(int,int); int part(int); int cut(int,int); boolean wish(int,int,int); int pairs(int);"
        + "int eggs(int,int,int); int season(int,int,int,int); int height(int); int hollow(int); int third(int);"
        + "int three(int); int sum(int,int,int); int pounds(int); int round(int,int,int); int rounds(int,int,int,int);"
        + "int halves(int,int); int song(int,int); int spade(int); int spades(int); int game(int); boolean undo();"
        + "boolean image(boolean); int look(int)";

    private FaceTest() {
    }

    public static void main(String[] args) throws IOException {
        face();
        members();
        source(Files.readString(Path.of("src/main/java/GriefWood.java")));
        DUE.close();
    }

    private static void face() {
        DUE.part("the face");
        Set<String> want = new TreeSet<>();
        for (String s : FACE.split(";")) {
            want.add(s.strip());
        }
        Set<String> got = new TreeSet<>();
        for (Method m : GriefWood.class.getDeclaredMethods()) {
            if (Modifier.isPrivate(m.getModifiers())) {
                continue;
            }
            DUE.yes(m + " is public, of an object", m.getModifiers() == Modifier.PUBLIC);
            StringBuilder s = new StringBuilder(m.getReturnType() + " " + m.getName() + "(");
            for (Class<?> p : m.getParameterTypes()) {
                s.append(s.charAt(s.length() - 1) == '(' ? "" : ",").append(p);
            }
            got.add(s + ")");
        }
        DUE.yes("methods " + got, got.equals(want));
        Constructor<?>[] made = GriefWood.class.getDeclaredConstructors();
        DUE.is("constructors", made.length, 1);
        DUE.is("its arguments", made[0].getParameterCount(), 0);
        DUE.yes("it is public", Modifier.isPublic(made[0].getModifiers()));
        int kind = GriefWood.class.getModifiers();
        DUE.yes("the class is public and final", Modifier.isPublic(kind) && Modifier.isFinal(kind));
        for (Field f : GriefWood.class.getDeclaredFields()) {
            DUE.yes(f + " is private, or NONE", Modifier.isPrivate(f.getModifiers()) || f.getName().equals("NONE"));
        }
    }

    private static void members() {
        DUE.part("the classes inside");
        Set<String> open = new TreeSet<>();
        for (String s : Calls.NAMES) {
            open.add(s);
        }
        Class<?>[] inside = GriefWood.class.getDeclaredClasses();
        DUE.yes("some twelve classes", inside.length <= 11);
        for (Class<?> c : inside) {
            DUE.yes(c + " is static, not public", Modifier.isStatic(c.getModifiers())
                && !Modifier.isPublic(c.getModifiers()) && !Modifier.isProtected(c.getModifiers()));
            checkMethods(c, open);
        }
        for (Method m : GriefWood.class.getDeclaredMethods()) {
            DUE.yes(m + " bears a free name", Modifier.isPublic(m.getModifiers()) || !open.contains(m.getName()));
        }
        for (Class<?> c : new Class<?>[] {GriefWood.class}) {
            checkFields(c);
        }
        Arrays.stream(inside).forEach(FaceTest::checkFields);
    }

    private static void checkMethods(Class<?> c, Set<String> open) {
        for (Method m : c.getDeclaredMethods()) {
            DUE.yes(m + " bears a free name", !open.contains(m.getName()));
            DUE.yes(m + " has seven parameters at most", m.getParameterCount() <= 7);
        }
    }

    private static void checkFields(Class<?> c) {
        int own = 0;
        for (Field f : c.getDeclaredFields()) {
            if (Modifier.isStatic(f.getModifiers())) {
                DUE.yes(f + " is final", Modifier.isFinal(f.getModifiers()));
            } else {
                own++;
            }
        }
        DUE.yes(c + " has some twenty fields at most", own <= 20);
    }

    private static void source(String text) {
        DUE.part("the file");
        String code = text.replaceAll("(?s)/\\*.*?\\*/", " ").replaceAll("//[^\n]*", " ");
        String bare = code.replaceAll("\"[^\"\n]*\"", "\"\"").replaceAll("'(\\\\.|[^'])'", "' '");
        String[] refused = {"throw", "throws", "try", "catch", "synchronized", "assert", "package", "import", "Exception",
            "hashCode", "toString", "Random", "Thread", "Object", "native", "volatile", "transient", "strictfp"};
        for (String word : refused) {
            DUE.no(word, Pattern.compile("\\b" + word + "\\b").matcher(bare).find());
        }
        DUE.no("a lambda", bare.contains("->"));
        DUE.no("a method reference", bare.contains("::"));
        DUE.no("a static block", Pattern.compile("static\\s*\\{").matcher(bare).find());
        DUE.no("texts joined by +", Pattern.compile("\"\"\\s*\\+|\\+\\s*\"\"").matcher(bare).find());
        Matcher library = Pattern.compile("\\b(System|Math|Integer|Long)\\.(\\w+)").matcher(bare);
        Set<String> known = Set.of("System.arraycopy", "Math.max", "Math.min", "Math.abs", "Integer.bitCount",
            "Long.bitCount");
        while (library.find()) {
            DUE.yes(library.group(), known.contains(library.group()));
        }
        for (char c : text.toCharArray()) {
            if (c != '\n' && (c < 32 || c > 126)) {
                DUE.is("a sign of the file", c, 32);
            }
        }
        methodsAreShort(text);
    }

    /** A method of the class begins four or eight blanks in, and ends with the next brace that stands as far in. */
    private static void methodsAreShort(String text) {
        Matcher method = Pattern.compile("(?m)^( {4}| {8})(\\w[^\n;]*\\)) \\{\n((?:\\1 .*\n|\n)*)\\1\\}$").matcher(text);
        int methods = 0;
        while (method.find()) {
            methods++;
            DUE.yes(method.group(2) + " is short", method.group(3).split("\n").length <= 60);
        }
        DUE.yes("methods: " + methods, methods > 42);
    }
}
