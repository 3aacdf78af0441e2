import java.io.IOException;
import java.lang.reflect.Constructor;
import java.lang.reflect.Field;
import java.lang.reflect.Method;
import java.lang.reflect.Modifier;
import java.nio.file.Files;
import java.nio.file.Path;
import java.util.Set;
import java.util.TreeSet;
import java.util.regex.Matcher;
import java.util.regex.Pattern;

/** The rules of ../shared/LANGUAGE.md that can be read off the class and its file; run from the project's folder. */
final class LanguageTest {
    private static final Expect EXPECT = new Expect("language");
    private static final Path FILE = Path.of("src/main/java/ChargePosts.java");
    private static final String[] FACE = {
        "int write(int)", "int wipe()", "int fault()", "int site()", "int about(int)", "int post(int,int)",
        "int car(int,int)", "int minute(int)", "int plug(int,int)", "int pull(int)", "int say(int,int)",
        "int reset(int)", "int limit(int)", "int undo()", "int ahead(int,boolean,int,int)", "int done(int)",
        "int least(int)", "int signed(int,int,int)", "int forged(int,int,int)", "int judge(int,int)",
        "int see(int,int,int)", "int unsee()", "int which()", "int share(int,boolean)",
        "int chance(int,int,boolean)", "long seed(long)", "int drawn(int)", "int keep(int)", "int again(int)"};
    private static final String[] CONSTANTS = {"UNKNOWN", "BAD", "LATE", "FULL", "NONE"};
    private static final Set<Class<?>> PLAIN = Set.of(int.class, long.class, boolean.class, int[].class, int[][].class);
    private static final Pattern METHOD = Pattern.compile("(?m)^( {4}| {8})(?! )[^\\n;=/]*\\) \\{\n(?s:(.*?)\n)\\1\\}$");
    private static final String[] FORBIDDEN = {
        "\\bthrows?\\b", "\\btry\\b", "\\bcatch\\b", "\\bfinally\\b", "\\bsynchronized\\b", "\\bassert\\b", "->", "::",
        "\\bpackage\\b", "\\bimport\\b", "\\bequals\\b", "\\bhashCode\\b", "\\btoString\\b", "Exact\\b",
        "\\bThread\\b", "\\bRandom\\b", "nanoTime", "currentTime", "\\bprotected\\b", "static\\s*\\{", "\\bfloat\\b",
        "\\bdouble\\b", "\\bvar\\b", "while \\(true\\)", "for \\(;;\\)"};

    public static void main(String[] args) throws IOException {
        face();
        constants();
        inside(ChargePosts.class);
        Class<?>[] classes = ChargePosts.class.getDeclaredClasses();
        EXPECT.due("classes: " + classes.length, classes.length < 12 ? 1 : 0, 1);
        for (Class<?> c : classes) {
            EXPECT.due(c.getSimpleName() + " is static", Modifier.isStatic(c.getModifiers()) ? 1 : 0, 1);
            inside(c);
        }
        words();
        lengths();
        EXPECT.finish();
    }

    private static void face() {
        EXPECT.part("rule 1");
        Set<String> open = new TreeSet<>();
        Set<String> closed = new TreeSet<>();
        Set<String> names = new TreeSet<>();
        for (Method m : ChargePosts.class.getDeclaredMethods()) {
            StringBuilder types = new StringBuilder();
            for (Class<?> type : m.getParameterTypes()) {
                types.append(types.length() == 0 ? "" : ",").append(type.getSimpleName());
            }
            boolean secret = Modifier.isPrivate(m.getModifiers());
            if (secret) {
                closed.add(m.getName());
            } else {
                open.add(m.getReturnType().getSimpleName() + " " + m.getName() + "(" + types + ")");
                names.add(m.getName());
                EXPECT.due(m.getName() + " is public, not static", m.getModifiers(), Modifier.PUBLIC);
            }
        }
        EXPECT.due("the methods that are not private: " + open, open.equals(Set.of(FACE)) ? 1 : 0, 1);
        closed.retainAll(names);
        EXPECT.due("private methods with a public one's name: " + closed, closed.size(), 0);
        Constructor<?>[] makers = ChargePosts.class.getDeclaredConstructors();
        EXPECT.due("constructors", makers.length, 1);
        EXPECT.due("the constructor is public", makers[0].getModifiers(), Modifier.PUBLIC);
        EXPECT.due("its parameters", makers[0].getParameterCount(), 0);
        EXPECT.due("the class", ChargePosts.class.getModifiers(), Modifier.PUBLIC | Modifier.FINAL);
    }

    private static void constants() {
        Set<String> open = new TreeSet<>();
        for (Field f : ChargePosts.class.getDeclaredFields()) {
            if (!Modifier.isPrivate(f.getModifiers())) {
                open.add(f.getName());
                EXPECT.due("modifiers of " + f.getName(), f.getModifiers(),
                        Modifier.PUBLIC | Modifier.STATIC | Modifier.FINAL);
                EXPECT.due(f.getName() + " is an int", f.getType() == int.class ? 1 : 0, 1);
            }
        }
        EXPECT.due("the fields that are not private: " + open, open.equals(Set.of(CONSTANTS)) ? 1 : 0, 1);
    }

    private static void inside(Class<?> c) {
        EXPECT.part("rules 1, 3, 5 and 11, " + c.getSimpleName());
        int fields = 0;
        for (Field f : c.getDeclaredFields()) {
            if (Modifier.isStatic(f.getModifiers())) {
                EXPECT.due(f.getName() + " is final", Modifier.isFinal(f.getModifiers()) ? 1 : 0, 1);
            } else {
                fields++;
            }
            EXPECT.due("the type of " + f.getName(), isAllowed(f.getType()) ? 1 : 0, 1);
        }
        EXPECT.due("fields: " + fields, fields <= 20 ? 1 : 0, 1);
        for (Method m : c.getDeclaredMethods()) {
            EXPECT.due("parameters of " + m.getName(), m.getParameterCount() <= 7 ? 1 : 0, 1);
            boolean open = Modifier.isPublic(m.getModifiers());
            EXPECT.due(m.getName() + " bears a public name", !open && isPublicName(m.getName()) ? 1 : 0, 0);
        }
    }

    private static boolean isAllowed(Class<?> type) {
        Class<?> part = type.isArray() ? type.getComponentType() : type;
        return PLAIN.contains(type) || part.getNestHost() == ChargePosts.class;
    }

    private static boolean isPublicName(String name) {
        for (String method : FACE) {
            if (method.contains(" " + name + "(")) {
                return true;
            }
        }
        return false;
    }

    private static void lengths() throws IOException {
        EXPECT.part("rule 11");
        Matcher methods = METHOD.matcher(Files.readString(FILE));
        int found = 0;
        while (methods.find()) {
            found++;
            long lines = methods.group().lines().count();
            EXPECT.due("lines: " + methods.group().lines().findFirst().get(), lines <= 60 ? 1 : 0, 1);
        }
        int declared = ChargePosts.class.getDeclaredMethods().length;
        for (Class<?> c : ChargePosts.class.getDeclaredClasses()) {
            declared += c.getDeclaredMethods().length;
        }
        EXPECT.due("methods found, without constructors", found >= declared ? 1 : 0, 1);
    }

    private static void words() throws IOException {
        EXPECT.part("rules 2, 4, 6 and 13");
        String source = Files.readString(FILE);
        EXPECT.due("signs beyond ASCII", source.chars().filter(c -> c > 126).count(), 0);
        String code = source.replaceAll("(?s)/\\*.*?\\*/", " ").replaceAll("//[^\n]*", " ");
        for (String word : FORBIDDEN) {
            EXPECT.due(word, Pattern.compile(word).matcher(code).results().count(), 0);
        }
        EXPECT.due("texts in the code", code.chars().filter(c -> c == '"').count(), 0);
    }
}
