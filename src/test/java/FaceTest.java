import java.lang.reflect.Constructor;
import java.lang.reflect.Field;
import java.lang.reflect.Method;
import java.lang.reflect.Modifier;
import java.nio.file.Files;
import java.nio.file.Path;
import java.util.ArrayList;
import java.util.List;
import java.util.Set;
import java.util.TreeSet;
import java.util.regex.Matcher;
import java.util.regex.Pattern;

/** The public face, and those rules of LANGUAGE.md that can be seen from the class and its source. */
public final class FaceTest {
    private static final Check CHECK = new Check("FaceTest");

    private static final Set<String> METHODS = Set.of(
        "int letter(int)", "int blank()", "int fault(int)", "int channel()", "int say()", "int ink(int)",
        "int about(int)", "int pin(int, int)", "int net(int, int)", "int segment(int, int)",
        "int above(int, int)", "int may(int, int)", "int ring(int)", "int zone(int)",
        "int put(int, int, int)", "int turn(int)", "int cut(int, boolean)", "int set(int, int)",
        "int clear()", "int pack()", "int best()", "int cell(int, int, int)", "int count(int)",
        "long digest()");
    private static final Set<String> CONSTANTS = Set.of("NONE", "UNKNOWN", "OUTSIDE", "STATE", "FULL");

    public static void main(String[] args) throws Exception {
        face();
        constants();
        for (Class<?> one : classes()) {
            size(one);
        }
        if (args.length > 0) {
            source(Files.readString(Path.of(args[0])));
        }
        CHECK.finish();
    }

    private static List<Class<?>> classes() {
        List<Class<?>> all = new ArrayList<>(List.of(ChannelTracks.class.getDeclaredClasses()));
        CHECK.that("some twelve classes at most: " + all.size(), all.size() < 12);
        all.add(ChannelTracks.class);
        return all;
    }

    private static String signature(Method m) {
        StringBuilder text = new StringBuilder(m.getReturnType() + " " + m.getName() + "(");
        for (Class<?> parameter : m.getParameterTypes()) {
            text.append(text.charAt(text.length() - 1) == '(' ? "" : ", ").append(parameter);
        }
        return text.append(')').toString();
    }

    private static void face() {
        CHECK.that("the class is public and final",
            ChannelTracks.class.getModifiers() == (Modifier.PUBLIC | Modifier.FINAL));
        Set<String> found = new TreeSet<>();
        for (Method m : ChannelTracks.class.getDeclaredMethods()) {
            if (!Modifier.isPrivate(m.getModifiers())) {
                CHECK.that(m + " is public and no more", m.getModifiers() == Modifier.PUBLIC);
                found.add(signature(m));
            }
        }
        CHECK.that("the methods are " + found, found.equals(new TreeSet<>(METHODS)));
        Constructor<?>[] constructors = ChannelTracks.class.getDeclaredConstructors();
        CHECK.that("one constructor, public, without parameters", constructors.length == 1
            && constructors[0].getParameterCount() == 0 && Modifier.isPublic(constructors[0].getModifiers()));
    }

    private static void constants() {
        Set<String> found = new TreeSet<>();
        for (Field f : ChannelTracks.class.getDeclaredFields()) {
            if (!Modifier.isPrivate(f.getModifiers())) {
                CHECK.that(f + " is a public constant", f.getType() == int.class
                    && f.getModifiers() == (Modifier.PUBLIC | Modifier.STATIC | Modifier.FINAL));
                found.add(f.getName());
            }
        }
        CHECK.that("the constants are " + found, found.equals(new TreeSet<>(CONSTANTS)));
        CHECK.is("NONE", ChannelTracks.NONE, -1);
        CHECK.is("UNKNOWN", ChannelTracks.UNKNOWN, -101);
        CHECK.is("OUTSIDE", ChannelTracks.OUTSIDE, -102);
        CHECK.is("STATE", ChannelTracks.STATE, -103);
        CHECK.is("FULL", ChannelTracks.FULL, -104);
    }

    private static void size(Class<?> one) {
        int fields = 0;
        for (Field f : one.getDeclaredFields()) {
            boolean fixed = Modifier.isStatic(f.getModifiers());
            CHECK.that(f + " is static but not final", !fixed || Modifier.isFinal(f.getModifiers()));
            fields += fixed ? 0 : 1;
        }
        CHECK.that(one + " has some twenty fields at most: " + fields, fields <= 20);
        for (Method m : one.getDeclaredMethods()) {
            CHECK.that(m + " has at most seven parameters", m.getParameterCount() <= 7);
            boolean own = one == ChannelTracks.class && Modifier.isPublic(m.getModifiers());
            boolean named = METHODS.stream().anyMatch(s -> s.contains(" " + m.getName() + "("));
            CHECK.that(m + " bears the name of a public method", own || !named);
        }
        if (one != ChannelTracks.class) {
            int modifiers = one.getModifiers();
            CHECK.that(one + " is static and not public", Modifier.isStatic(modifiers)
                && !Modifier.isPublic(modifiers) && !Modifier.isProtected(modifiers));
        }
    }

    private static void source(String source) {
        String code = source.replaceAll("(?s)/\\*.*?\\*/", "").replaceAll("//[^\n]*", "")
            .replaceAll("\"[^\"\n]*\"", "\"\"");
        String[] refused = {"\\b(throw|throws|try|catch|synchronized|assert|import|package|yield)\\b", "->", "::",
            "\\bSystem\\.(?!arraycopy)", "Exact\\b", "\\b(equals|hashCode|toString)\\b", "@",
            "\\bstatic\\s*\\{"};
        for (String one : refused) {
            Matcher m = Pattern.compile(one).matcher(code);
            CHECK.that("the source has " + one, !m.find());
        }
        // A method begins with a line that ends in ") {" and ends with a brace as far indented.
        Matcher m = Pattern.compile("(?m)^( +)(?:public|private|static|final|int|long|void|boolean|String)[^\n;=]*\\) \\{$")
            .matcher(source);
        int methods = 0;
        while (m.find()) {
            int end = source.indexOf("\n" + m.group(1) + "}\n", m.end());
            long lines = end < 0 ? 999 : source.substring(m.start(), end).lines().count() + 1;
            CHECK.that("a method of " + lines + " lines: " + m.group().trim(), lines <= 60);
            methods++;
        }
        CHECK.that("too few methods were seen: " + methods, methods > 60);
    }
}
