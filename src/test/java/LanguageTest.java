import java.io.IOException;
import java.lang.reflect.Constructor;
import java.lang.reflect.Field;
import java.lang.reflect.Method;
import java.lang.reflect.Modifier;
import java.nio.file.Files;
import java.nio.file.Path;
import java.util.Arrays;
import java.util.TreeSet;
import java.util.regex.Matcher;
import java.util.regex.Pattern;

/** The face of the class is the document's, and the source keeps to rules of LANGUAGE.md that can be seen. */
public final class LanguageTest {
    private static final Path DOCUMENT = Path.of("../shared/DOC.md");
    private static final String[] FACE = {
        "int feed(int, int, int, int, int)", "boolean end(int)", "int poke(int, int)", "int load()",
        "int fault(int)", "int save()", "int tape(int)", "boolean sample(int, int, int, int)",
        "boolean loop(int, int, int)", "boolean wave(int, int, int)", "boolean cell(int, int, int, int)",
        "int cellOf(int, int, int)", "boolean place(int, int)", "boolean song(int, int)", "void start()",
        "boolean mute(int, boolean)", "int play(int)", "int now(int)", "int channel(int, int)",
        "int frame(int, int)",
    };

    public static void main(String[] args) throws IOException {
        methods();
        otherMembers();
        nestedClasses();
        String text = Files.readString(Path.of("src/main/java/ModulePlayer.java"));
        source(text);
        methodsAreShort(text);
        if (Files.exists(DOCUMENT)) {
            faceIsTheDocuments(text, Files.readString(DOCUMENT));
        }
        Due.end();
    }

    private static void methods() {
        TreeSet<String> seen = new TreeSet<>();
        TreeSet<String> publicNames = new TreeSet<>();
        for (Method m : ModulePlayer.class.getDeclaredMethods()) {
            if (!Modifier.isPrivate(m.getModifiers())) {
                String types = Arrays.toString(m.getParameterTypes());
                seen.add(m.getReturnType() + " " + m.getName() + "(" + types.substring(1, types.length() - 1) + ")");
                publicNames.add(m.getName());
                Due.yes(m.getName() + " is public", Modifier.isPublic(m.getModifiers()));
                Due.no(m.getName() + " is static", Modifier.isStatic(m.getModifiers()));
            }
        }
        TreeSet<String> due = new TreeSet<>(Arrays.asList(FACE));
        Due.yes("methods " + seen, seen.equals(due));
        noOtherBearsTheirNames(ModulePlayer.class, publicNames);
        for (Class<?> inside : ModulePlayer.class.getDeclaredClasses()) {
            noOtherBearsTheirNames(inside, publicNames);
        }
    }

    private static void noOtherBearsTheirNames(Class<?> where, TreeSet<String> names) {
        for (Method m : where.getDeclaredMethods()) {
            Due.yes(m + " takes at most seven", m.getParameterCount() <= 7);
            boolean isFace = where == ModulePlayer.class && Modifier.isPublic(m.getModifiers());
            Due.no(m + " bears a public name", !isFace && names.contains(m.getName()));
        }
    }

    private static void otherMembers() {
        int shape = ModulePlayer.class.getModifiers();
        Due.yes("public final", Modifier.isPublic(shape) && Modifier.isFinal(shape));
        Constructor<?>[] constructors = ModulePlayer.class.getDeclaredConstructors();
        Due.is("constructors", constructors.length, 1);
        Due.yes("it is public", Modifier.isPublic(constructors[0].getModifiers()));
        for (Field f : ModulePlayer.class.getDeclaredFields()) {
            boolean isNone = f.getName().equals("NONE");
            Due.yes(f + " is private", isNone || Modifier.isPrivate(f.getModifiers()));
        }
    }

    private static void nestedClasses() {
        Class<?>[] inside = ModulePlayer.class.getDeclaredClasses();
        Due.yes("at most twelve classes", inside.length + 1 <= 12);
        for (Class<?> c : inside) {
            Due.yes(c + " is static", Modifier.isStatic(c.getModifiers()));
            Due.no(c + " is public", Modifier.isPublic(c.getModifiers()));
            int fields = 0;
            for (Field f : c.getDeclaredFields()) {
                boolean isStatic = Modifier.isStatic(f.getModifiers());
                fields += isStatic ? 0 : 1;
                Due.no(f + " is static state", isStatic && !Modifier.isFinal(f.getModifiers()));
            }
            Due.yes(c + " has at most twenty fields", fields <= 20);
        }
    }

    private static void source(String text) {
        String code = text.replaceAll("(?s)/\\*.*?\\*/", "").replaceAll("//.*", "");
        String[] banned = {
            "throw", "throws", "try", "catch", "finally", "synchronized", "assert", "package", "Object",
            "Exception", "\\w+Exact", "hashCode", "toString", "Random", "Thread", "currentTimeMillis", "nanoTime",
        };
        for (String word : banned) {
            Matcher m = Pattern.compile("\\b" + word + "\\b").matcher(code);
            Due.no("'" + word + "' in the source", m.find());
        }
        Due.no("a lambda or arrow", code.contains("->"));
        Due.no("a method reference", code.contains("::"));
        Matcher imports = Pattern.compile("\\bimport\\s+([^;]+);").matcher(code);
        while (imports.find()) {
            Due.yes("import " + imports.group(1), imports.group(1).equals("java.util.Arrays"));
        }
    }

    /** Every public line of the class stands in the document's face, names of arguments too, and none is missing. */
    private static void faceIsTheDocuments(String text, String document) {
        String face = document.substring(document.indexOf("```java"), document.indexOf("## Terms"));
        TreeSet<String> due = publicLines(face);
        Due.is("public lines of the document", due.size(), FACE.length + 3);
        TreeSet<String> seen = publicLines(text);
        Due.yes("public lines " + seen, seen.equals(due));
    }

    private static TreeSet<String> publicLines(String text) {
        TreeSet<String> lines = new TreeSet<>();
        for (String line : text.split("\n")) {
            if (line.strip().startsWith("public ")) {
                lines.add(line.strip().replaceAll("\\s*[;{]$", ""));
            }
        }
        return lines;
    }

    /** A method begins with its head at one of two depths, and ends with a brace at the same. */
    private static void methodsAreShort(String text) {
        Matcher m = Pattern.compile("(?ms)^(    |        )(\\w[^\\n;=]*\\)) \\{\\n(.*?)^\\1\\}").matcher(text);
        int methods = 0;
        while (m.find()) {
            methods++;
            Due.yes(m.group(2) + " has at most sixty lines", m.group(3).split("\n").length + 2 <= 60);
        }
        Due.yes("methods were found", methods > FACE.length);
    }
}
