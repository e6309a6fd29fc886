import java.lang.reflect.Constructor;
import java.lang.reflect.Field;
import java.lang.reflect.Method;
import java.lang.reflect.Modifier;
import java.nio.file.Files;
import java.nio.file.Path;
import java.util.ArrayList;
import java.util.Arrays;
import java.util.List;
import java.util.Set;
import java.util.TreeSet;
import java.util.regex.Matcher;
import java.util.regex.Pattern;

/** The face, and what can be seen of the rules of LANGUAGE.md in the class and in its source. */
public final class LanguageTest {
    private static final Set<String> FACE = new TreeSet<>(Arrays.asList(
            "feed(long,int)int", "fill(int,int,int)int", "cut(int)int", "alter(int,int)int", "octet(int)int",
            "sum(int)long", "length(int)int", "at(int,int)int", "load(int)int", "drop(int)int", "differ(int,int)int",
            "pack(int,int)int", "open(int)int", "fault(int)int", "token(int,int)int", "bits()int", "name(long,int)int",
            "entry(int,int,int)int", "write(int,int)int", "read(int)int", "told(int,int)int", "nameAt(int,int)int",
            "extract(int)int", "wipe()int", "delta(int,int)int", "apply(int)int", "protect(int,int)int",
            "part(int,int)int", "lose(int)int", "spoil(int,int,int)int", "repair()int", "whole()int", "save()int",
            "restore(int)int", "forget(int)int", "shared(int,int)int", "store(int)int"));

    public static void main(String[] args) throws Exception {
        face();
        comments();
        classes();
        source();
        Check.end("LanguageTest");
    }

    private static void face() {
        Class<?> type = PackingHouse.class;
        Check.holds("public and final", Modifier.isPublic(type.getModifiers()) && Modifier.isFinal(type.getModifiers()));
        Set<String> open = new TreeSet<>();
        Set<String> names = new TreeSet<>();
        for (Method method : type.getDeclaredMethods()) {
            if (!Modifier.isPrivate(method.getModifiers())) {
                StringBuilder told = new StringBuilder(method.getName()).append('(');
                for (Class<?> parameter : method.getParameterTypes()) {
                    told.append(told.charAt(told.length() - 1) == '(' ? "" : ",").append(parameter.getName());
                }
                open.add(told.append(')').append(method.getReturnType().getName()).toString());
                names.add(method.getName());
            }
        }
        Check.due("the face", open.toString(), FACE.toString());
        for (Field field : type.getDeclaredFields()) {
            Check.holds("private: " + field.getName(), Modifier.isPrivate(field.getModifiers()));
        }
        for (Constructor<?> constructor : type.getDeclaredConstructors()) {
            Check.due("the constructor", constructor.getParameterCount(), 0);
            Check.holds("public", Modifier.isPublic(constructor.getModifiers()));
        }
        for (Class<?> inner : type.getDeclaredClasses()) {
            for (Method method : inner.getDeclaredMethods()) {
                Check.holds("no other method bears a name of the face: " + method.getName(),
                        !names.contains(method.getName()));
            }
        }
    }

    private static void comments() throws Exception {
        String text = Files.readString(Path.of("src/main/java/PackingHouse.java"));
        Check.says("Ahead of the calls `feed`, `fill`, `cut`, `alter`, `octet`, `sum` the interface says: ---- "
                + "the TRAY.");
        ahead(text, "the TRAY", "feed", "fill", "cut", "alter", "octet", "sum");
        Check.says("Ahead of the calls `length`, `at`, `load`, `drop`, `differ` the interface says: ---- STREAMS.");
        ahead(text, "STREAMS", "length", "at", "load", "drop", "differ");
        Check.says("Ahead of the calls `pack`, `open`, `fault`, `token`, `bits` the interface says: ---- packing, "
                + "opening.");
        ahead(text, "packing, opening", "pack", "open", "fault", "token", "bits");
        Check.says("Ahead of the calls `name`, `entry`, `write`, `read`, `told`, `nameAt`, `extract`, `wipe` the "
                + "interface says: ---- SHELVES.");
        ahead(text, "SHELVES", "name", "entry", "write", "read", "told", "nameAt", "extract", "wipe");
        Check.says("Ahead of the calls `delta`, `apply` the interface says: ---- DELTAS.");
        ahead(text, "DELTAS", "delta", "apply");
        Check.says("Ahead of the calls `protect`, `part`, `lose`, `spoil`, `repair`, `whole` the interface says: "
                + "---- PARTS.");
        ahead(text, "PARTS", "protect", "part", "lose", "spoil", "repair", "whole");
        Check.says("Ahead of the calls `save`, `restore`, `forget`, `shared`, `store` the interface says: ---- "
                + "the STORE.");
        ahead(text, "the STORE", "save", "restore", "forget", "shared", "store");
    }

    /** The last such comment that stands before each of these calls is this one. */
    private static void ahead(String text, String comment, String... calls) {
        for (String call : calls) {
            Matcher head = Pattern.compile("public (int|long) " + call + "\\(").matcher(text);
            Check.holds("there is " + call, head.find());
            int begin = text.lastIndexOf("// ---- ", head.start()) + 8;
            Check.due("ahead of " + call, text.substring(begin, text.indexOf('\n', begin)), comment);
        }
    }

    private static void classes() {
        List<Class<?>> all = new ArrayList<>(List.of(PackingHouse.class.getDeclaredClasses()));
        all.add(PackingHouse.class);
        Check.holds("twelve classes at most", all.size() <= 12);
        for (Class<?> type : all) {
            Check.holds("static", type == PackingHouse.class || Modifier.isStatic(type.getModifiers()));
            int fields = 0;
            for (Field field : type.getDeclaredFields()) {
                if (Modifier.isStatic(field.getModifiers())) {
                    Check.holds("static is final: " + field.getName(), Modifier.isFinal(field.getModifiers()));
                } else {
                    fields++;
                }
            }
            Check.holds("twenty fields at most: " + type.getName(), fields <= 20);
            for (Method method : type.getDeclaredMethods()) {
                Check.holds("seven parameters at most: " + method.getName(), method.getParameterCount() <= 7);
            }
        }
    }

    private static void source() throws Exception {
        String text = Files.readString(Path.of("src/main/java/PackingHouse.java"));
        for (int i = 0; i < text.length(); i++) {
            if (text.charAt(i) > 126) {
                Check.holds("plain characters", false);
            }
        }
        String code = text.replaceAll("(?s)/\\*.*?\\*/", " ").replaceAll("//[^\n]*", " ");
        for (String word : new String[] {"throw", "throws", "try", "catch", "synchronized", "assert", "package", "native",
            "volatile", "yield", "var", "Object", "Exception", "Random", "Thread", "System.out", "Integer.reverse",
            "protected"}) {
            Check.holds("no " + word, !Pattern.compile("\\b" + Pattern.quote(word) + "\\b").matcher(code).find());
        }
        Check.holds("no lambda, no reference to a method", !code.contains("->") && !code.contains("::"));
        Check.holds("no text", !code.contains("\""));
        Matcher imports = Pattern.compile("import ([\\w.]+);").matcher(code);
        while (imports.find()) {
            Check.due("import", imports.group(1), "java.util.Arrays");
        }
        Matcher calls = Pattern.compile("\\b(Math|Arrays|System|Integer|Long)\\.(\\w+)").matcher(code);
        Set<String> library = new TreeSet<>();
        while (calls.find()) {
            library.add(calls.group());
        }
        Check.due("the library", library.toString(), "[Arrays.fill, Math.max, Math.min, System.arraycopy]");
        numbersAlone(code);
        methodLengths(text);
        loops(code);
    }

    /** Rule 4: Arrays.fill is over arrays of numbers, and a boolean is none. */
    private static void numbersAlone(String code) {
        List<Class<?>> all = new ArrayList<>(List.of(PackingHouse.class.getDeclaredClasses()));
        all.add(PackingHouse.class);
        for (Class<?> type : all) {
            for (Field field : type.getDeclaredFields()) {
                if (field.getType() == boolean[].class) {
                    Check.holds("filled by a loop: " + field.getName(),
                            !code.contains("Arrays.fill(" + field.getName() + ","));
                }
            }
        }
    }

    private static void methodLengths(String text) {
        String[] lines = text.split("\n");
        int begin = -1;
        String indent = "";
        for (int i = 0; i < lines.length; i++) {
            Matcher head = Pattern.compile("^( {4}| {8})\\S.*\\) \\{$").matcher(lines[i]);
            if (begin < 0 && head.matches() && !lines[i].contains(" class ")) {
                begin = i;
                indent = head.group(1);
            } else if (begin >= 0 && lines[i].equals(indent + "}")) {
                Check.holds("sixty lines at most: " + lines[begin].trim(), i - begin + 1 <= 60);
                begin = -1;
            }
        }
    }

    /** A while has no counter of its own: there is none. */
    private static void loops(String code) {
        Check.holds("no while", !Pattern.compile("\\bwhile\\b").matcher(code).find());
        Check.holds("no for without a bound", !code.contains("for (;;)") && !Pattern.compile("for \\([^;]*; *;").matcher(code).find());
    }
}
