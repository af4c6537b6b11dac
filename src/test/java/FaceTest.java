import java.io.IOException;
import java.lang.reflect.Constructor;
import java.lang.reflect.Field;
import java.lang.reflect.Method;
import java.lang.reflect.Modifier;
import java.nio.file.Files;
import java.nio.file.Path;
import java.util.Arrays;
import java.util.Map;
import java.util.Set;
import java.util.TreeMap;
import java.util.TreeSet;
import java.util.regex.Matcher;
import java.util.regex.Pattern;

/** The public face, and what of LANGUAGE.md can be seen in the source. */
public final class FaceTest {
    private static final Path SOURCE = Path.of("src/main/java/TurnSchool.java");
    private static final Check CHECK = new Check();

    public static void main(String[] args) throws IOException {
        face();
        otherMembers();
        source();
        methods();
        depth();
        CHECK.end();
    }

    private static Map<String, String> dueFace() {
        Map<String, String> face = new TreeMap<>();
        String one = "puzzle uncode go states count way lead cost weight toss";
        String two = "value see nth step race fixed element";
        String three = "told can fix make";
        for (String name : one.split(" ")) {
            face.put(name, "int int");
        }
        for (String name : two.split(" ")) {
            face.put(name, "int int int");
        }
        for (String name : three.split(" ")) {
            face.put(name, "int int int int");
        }
        for (String name : "start explain next".split(" ")) {
            face.put(name, "int");
        }
        for (String name : "code always keep".split(" ")) {
            face.put(name, "int int int int int");
        }
        face.put("answer", "int int int boolean");
        face.put("copy", "int int int int int int");
        face.put("element", "long int int IllegalArgumentException IllegalStateException");
        return face;
    }

    private static void face() {
        Map<String, String> seen = new TreeMap<>();
        for (Method method : TurnSchool.class.getDeclaredMethods()) {
            if (Modifier.isPublic(method.getModifiers())) {
                StringBuilder text = new StringBuilder(method.getReturnType().getSimpleName());
                for (Class<?> type : method.getParameterTypes()) {
                    text.append(' ').append(type.getSimpleName());
                }
                for (Class<?> type : method.getExceptionTypes()) {
                    text.append(' ').append(type.getSimpleName());
                }
                seen.put(method.getName(), text.toString());
            }
        }
        CHECK.same("the face", seen.toString(), dueFace().toString());
        CHECK.due("methods of the face", seen.size(), 29);
        int modifiers = TurnSchool.class.getModifiers();
        CHECK.due("public", Modifier.isPublic(modifiers) ? 1 : 0, 1);
        CHECK.due("final", Modifier.isFinal(modifiers) ? 1 : 0, 1);
    }

    /** Rule 1: nothing else can be seen from outside. */
    private static void otherMembers() {
        Constructor<?>[] constructors = TurnSchool.class.getDeclaredConstructors();
        CHECK.due("constructors", constructors.length, 1);
        CHECK.due("public constructor", Modifier.isPublic(constructors[0].getModifiers()) ? 1 : 0, 1);
        Set<String> names = dueFace().keySet();
        for (Field field : TurnSchool.class.getDeclaredFields()) {
            CHECK.due("private " + field.getName(), Modifier.isPrivate(field.getModifiers()) ? 1 : 0, 1);
        }
        for (Method method : TurnSchool.class.getDeclaredMethods()) {
            boolean hidden = Modifier.isPrivate(method.getModifiers()) || method.isSynthetic();
            CHECK.due("name " + method.getName(), hidden == names.contains(method.getName()) ? 1 : 0, 0);
        }
        for (Class<?> inside : TurnSchool.class.getDeclaredClasses()) {
            CHECK.due("static " + inside, Modifier.isStatic(inside.getModifiers()) ? 1 : 0, 1);
            for (Method method : inside.getDeclaredMethods()) {
                CHECK.due("name " + method.getName(), names.contains(method.getName()) ? 1 : 0, 0);
            }
            CHECK.due("fields of " + inside, Arrays.stream(inside.getDeclaredFields())
                .filter(f -> !Modifier.isStatic(f.getModifiers())).count() > 20 ? 1 : 0, 0);
        }
        CHECK.due("classes", TurnSchool.class.getDeclaredClasses().length < 12 ? 1 : 0, 1);
    }

    private static String bareSource() throws IOException {
        String text = Files.readString(SOURCE);
        return text.replaceAll("(?s)/\\*.*?\\*/", "").replaceAll("//[^\n]*", "");
    }

    private static void source() throws IOException {
        String text = bareSource();
        String[] banned = {"->", "::", "finally", "synchronized", "assert ", "Exact(", "package ",
            "equals(", "hashCode", "toString", "getMessage", "System.out", "System.nano", "Object",
            "Random", "HashMap", "RuntimeException e", "Exception e)", "Throwable", "var ", "float", "double"};
        for (String word : banned) {
            CHECK.due("the source has " + word, text.contains(word) ? 1 : 0, 0);
        }
        Matcher imports = Pattern.compile("import ([\\w.]+);").matcher(text);
        Set<String> names = new TreeSet<>();
        while (imports.find()) {
            names.add(imports.group(1));
        }
        CHECK.same("imports", names.toString(), "[java.util.Arrays]");
        Matcher library = Pattern.compile("\\b(Arrays|System|Math|Integer|Long)\\.(\\w+)").matcher(text);
        Set<String> used = new TreeSet<>();
        while (library.find()) {
            used.add(library.group());
        }
        CHECK.same("library", used.toString(),
            "[Arrays.fill, Integer.bitCount, Long.bitCount, Math.max, Math.min, System.arraycopy]");
    }

    /** Rule 11: at most seven parameters, some sixty lines. */
    private static void methods() throws IOException {
        int begun = -1;
        int number = 0;
        for (String line : Files.readAllLines(SOURCE)) {
            number++;
            boolean heads = line.matches(" {4,8}(public |private |static |final )*[\\w\\[\\]]+ \\w+\\(.*\\{");
            if (heads) {
                begun = number;
                int commas = line.length() - line.replace(",", "").length();
                CHECK.due("parameters in line " + number, commas > 6 ? 1 : 0, 0);
            }
            if (begun > 0 && line.matches(" {4,8}}")) {
                CHECK.due("lines from " + begun, number - begun > 60 ? 1 : 0, 0);
                begun = -1;
            }
        }
    }

    /** Rule 11: calls go at most eight deep; none comes back to itself. */
    private static void depth() throws IOException {
        Map<String, String> bodies = bodies();
        CHECK.due("methods are seen", bodies.size() > 29 ? 1 : 0, 1);
        for (String name : dueFace().keySet()) {
            CHECK.due("too deep: " + name, deepest(name, bodies, 0) > 8 ? 1 : 0, 0);
        }
    }

    /** Each method's body, by its name; like names are taken as one. */
    private static Map<String, String> bodies() throws IOException {
        String text = bareSource();
        Map<String, String> bodies = new TreeMap<>();
        Pattern head = Pattern.compile("(?m)^( {4,8})(?:public |private |static |final )*[\\w\\[\\]]+ (\\w+)\\([^;{]*\\{");
        Matcher heads = head.matcher(text);
        while (heads.find()) {
            int end = text.indexOf("\n" + heads.group(1) + "}", heads.end());
            bodies.merge(heads.group(2), text.substring(heads.end(), end), String::concat);
        }
        return bodies;
    }

    private static int deepest(String name, Map<String, String> bodies, int above) {
        int deepest = above + 1;
        Matcher calls = Pattern.compile("\\b(\\w+)\\(").matcher(bodies.get(name));
        while (calls.find() && deepest <= 8) {
            if (bodies.containsKey(calls.group(1))) {
                deepest = Math.max(deepest, deepest(calls.group(1), bodies, above + 1));
            }
        }
        return deepest;
    }
}
