import java.io.IOException;
import java.lang.reflect.Constructor;
import java.lang.reflect.Field;
import java.lang.reflect.Method;
import java.lang.reflect.Modifier;
import java.nio.file.Files;
import java.nio.file.Path;
import java.util.ArrayList;
import java.util.List;
import java.util.Set;
import java.util.TreeSet;
import java.util.regex.Matcher;
import java.util.regex.Pattern;

/** The public face is the document's, and the source keeps to what LANGUAGE.md says and a look can tell. */
public final class FaceTest {
    private static final Path SOURCE = Path.of("src/main/java/RobeHouse.java");
    private static final String FACE = "feed(long,int) bolt(int,int) about(int,int) row(int,int,int) wash(int)"
            + " dye(int,int) measure(int,int,int) set(int,int) sleeves(int) ugly(int,int,int) best(int) laid(int)"
            + " sew(int,int,int) robe(int,int) piece(int,int,int,int) miss(int,int) wear(int) unpick(int,int,int)"
            + " line(int,int) unline(int) rules(int) chest(int,int) person(int,int,int) may(int,int,int)"
            + " lend(int,int,int) back(int,int) clothe(int) gets(int) count(int)";
    private static final Check CHECK = new Check();

    public static void main(String[] args) throws IOException {
        face();
        classesInside();
        source(Files.readString(SOURCE));
        CHECK.end("FaceTest");
    }

    private static void face() {
        CHECK.about("the face");
        int modifiers = RobeHouse.class.getModifiers();
        CHECK.yes("the class is public and final", Modifier.isPublic(modifiers) && Modifier.isFinal(modifiers));
        Set<String> methods = new TreeSet<>();
        Set<String> names = new TreeSet<>();
        for (Method method : RobeHouse.class.getDeclaredMethods()) {
            if (!Modifier.isPrivate(method.getModifiers())) {
                CHECK.yes(method + " is public int", Modifier.isPublic(method.getModifiers())
                        && method.getReturnType() == int.class && !Modifier.isStatic(method.getModifiers()));
                methods.add(told(method));
                names.add(method.getName());
            }
        }
        CHECK.due("methods", new TreeSet<>(List.of(FACE.split(" "))).toString(), methods.toString());
        for (Class<?> c : all()) {
            for (Method method : c.getDeclaredMethods()) {
                CHECK.yes(method + " bears no public one's name", Modifier.isPublic(method.getModifiers())
                        || !names.contains(method.getName()));
            }
        }
        Constructor<?>[] constructors = RobeHouse.class.getDeclaredConstructors();
        CHECK.due("constructors", "[public RobeHouse()]", List.of(constructors).toString());
        Set<String> constants = new TreeSet<>();
        for (Field field : RobeHouse.class.getDeclaredFields()) {
            if (!Modifier.isPrivate(field.getModifiers())) {
                constants.add(field.toString());
            }
        }
        CHECK.due("constants", "[public static final int RobeHouse.BAD, public static final int RobeHouse.FULL, "
                + "public static final int RobeHouse.NONE, public static final int RobeHouse.STATE]",
                constants.toString());
        CHECK.due("NONE", -1, RobeHouse.NONE);
        CHECK.due("BAD", -2, RobeHouse.BAD);
        CHECK.due("STATE", -3, RobeHouse.STATE);
        CHECK.due("FULL", -4, RobeHouse.FULL);
    }

    private static String told(Method method) {
        List<String> types = new ArrayList<>();
        for (Class<?> type : method.getParameterTypes()) {
            types.add(type.getName());
        }
        return method.getName() + "(" + String.join(",", types) + ")";
    }

    private static List<Class<?>> all() {
        List<Class<?>> classes = new ArrayList<>(List.of(RobeHouse.class.getDeclaredClasses()));
        classes.add(RobeHouse.class);
        return classes;
    }

    private static void classesInside() {
        CHECK.about("classes");
        CHECK.yes("there are at most twelve", all().size() <= 12);
        for (Class<?> c : all()) {
            CHECK.yes(c + " is static", c == RobeHouse.class || Modifier.isStatic(c.getModifiers()));
            int fields = 0;
            for (Field field : c.getDeclaredFields()) {
                if (Modifier.isStatic(field.getModifiers())) {
                    CHECK.yes(field + " is final", Modifier.isFinal(field.getModifiers()));
                } else {
                    fields++;
                }
            }
            CHECK.yes(c + " has at most twenty fields", fields <= 20);
            for (Method method : c.getDeclaredMethods()) {
                CHECK.yes(method + " has at most seven parameters", method.getParameterCount() <= 7);
                CHECK.yes(method + " is written, not made by the compiler", !method.isSynthetic());
            }
        }
    }

    private static void source(String text) {
        CHECK.about("the source");
        String code = text.replaceAll("(?s)/\\*.*?\\*/", "").replaceAll("//[^\n]*", "");
        for (String word : List.of("throw", "throws", "try", "catch", "synchronized", "assert", "package", "protected",
                "var", "yield", "native", "volatile", "Object", "Random", "System.out", "hashCode", "toString")) {
            CHECK.yes("no " + word, !Pattern.compile("\\b" + Pattern.quote(word) + "\\b").matcher(code).find());
        }
        for (String sign : List.of("->", "::", "Exact(", "@")) {
            CHECK.yes("no " + sign, !code.contains(sign));
        }
        Matcher imports = Pattern.compile("import ([^;]*);").matcher(code);
        while (imports.find()) {
            CHECK.yes("import of " + imports.group(1), imports.group(1).equals("java.util.Arrays"));
        }
        lengths(text);
    }

    /** A method begins with a line that ends in { and ends with the next line of its own indent and }. */
    private static void lengths(String text) {
        String[] lines = text.split("\n");
        int begun = -1;
        String indent = "";
        for (int k = 0; k < lines.length; k++) {
            Matcher head = Pattern.compile("^( {4}| {8})(?!.* class )\\w[^=;]*\\).*\\{$").matcher(lines[k]);
            if (begun < 0 && head.find()) {
                begun = k;
                indent = head.group(1);
            } else if (begun >= 0 && lines[k].equals(indent + "}")) {
                CHECK.yes("the method of line " + (begun + 1) + " is short", k - begun <= 60);
                begun = -1;
            }
        }
    }
}
