import java.io.IOException;
import java.lang.reflect.Constructor;
import java.lang.reflect.Field;
import java.lang.reflect.Method;
import java.lang.reflect.Modifier;
import java.nio.file.Files;
import java.nio.file.Path;
import java.util.Arrays;
import java.util.HashSet;
import java.util.List;
import java.util.Set;
import java.util.TreeSet;
import java.util.regex.Matcher;
import java.util.regex.Pattern;

/** The public face is the document's, and the file keeps to those rules of LANGUAGE.md that can be seen by eye. */
public final class FaceTest {
    private static final Due due = new Due();
    private static final Path DOCUMENT = Path.of("../shared/DOC.md");
    private static final Path PROGRAM = Path.of("src/main/java/KnotTable.java");

    private static Set<String> faceOfDocument() throws IOException {
        String text = Files.readString(DOCUMENT);
        String face = text.substring(text.indexOf("public final class"), text.indexOf("## Terms"));
        Set<String> methods = new TreeSet<>();
        Matcher found = Pattern.compile("public (int|long) (\\w+)\\((.*?)\\);").matcher(face);
        while (found.find()) {
            String kinds = found.group(3).replaceAll("(int|long) \\w+", "$1").replace(" ", "");
            methods.add(found.group(1) + " " + found.group(2) + "(" + kinds + ")");
        }
        return methods;
    }

    private static Set<String> faceOfProgram() {
        Set<String> methods = new TreeSet<>();
        for (Method method : KnotTable.class.getDeclaredMethods()) {
            if (!Modifier.isPrivate(method.getModifiers())) {
                StringBuilder kinds = new StringBuilder();
                for (Class<?> kind : method.getParameterTypes()) {
                    kinds.append(kinds.length() == 0 ? "" : ",").append(kind.getName());
                }
                methods.add(method.getReturnType().getName() + " " + method.getName() + "(" + kinds + ")");
            }
        }
        return methods;
    }

    private static void members() throws IOException {
        due.holds("the methods are the document's: " + faceOfProgram(), faceOfProgram().equals(faceOfDocument()));
        due.is("methods of the document", faceOfDocument().size(), 51);
        Set<String> fields = new TreeSet<>();
        for (Field field : KnotTable.class.getDeclaredFields()) {
            if (!Modifier.isPrivate(field.getModifiers())) {
                fields.add(field.getName());
            }
        }
        due.holds("the constants are the document's", fields.equals(new TreeSet<>(Arrays.asList("NONE", "BAD", "FULL"))));
        Constructor<?>[] constructors = KnotTable.class.getDeclaredConstructors();
        due.is("constructors", constructors.length, 1);
        due.is("its parameters", constructors[0].getParameterCount(), 0);
        due.holds("it is public", Modifier.isPublic(constructors[0].getModifiers()));
        due.holds("the class is final", Modifier.isFinal(KnotTable.class.getModifiers()));
        due.is("NONE", KnotTable.NONE, -1);
        due.is("BAD", KnotTable.BAD, -2);
        due.is("FULL", KnotTable.FULL, -3);
    }

    private static void classesInside() {
        Set<String> publicNames = new HashSet<>();
        for (Method method : KnotTable.class.getMethods()) {
            if (method.getDeclaringClass() == KnotTable.class) {
                publicNames.add(method.getName());
            }
        }
        Class<?>[] inside = KnotTable.class.getDeclaredClasses();
        due.holds("twelve classes at most", inside.length + 1 <= 12);
        for (Class<?> kind : inside) {
            due.holds(kind + " is static", Modifier.isStatic(kind.getModifiers()));
            due.holds(kind + " is not public", !Modifier.isPublic(kind.getModifiers()));
            inspect(kind, publicNames);
        }
        inspect(KnotTable.class, publicNames);
    }

    private static void inspect(Class<?> kind, Set<String> publicNames) {
        int fields = 0;
        for (Field field : kind.getDeclaredFields()) {
            if (Modifier.isStatic(field.getModifiers())) {
                due.holds(field + " is final", Modifier.isFinal(field.getModifiers()));
            } else {
                fields++;
            }
        }
        due.holds(kind + " has some twenty fields: " + fields, fields <= 20);
        for (Method method : kind.getDeclaredMethods()) {
            due.holds(method + " takes seven at most", method.getParameterCount() <= 7);
            if (kind != KnotTable.class || Modifier.isPrivate(method.getModifiers())) {
                due.holds(method + " bears no public name", !publicNames.contains(method.getName()));
            }
        }
    }

    private static void words() throws IOException {
        String code = Files.readString(PROGRAM).replaceAll("(?s)/\\*.*?\\*/", " ").replaceAll("//[^\n]*", " ");
        for (String word : new String[] {"throw", "throws", "try", "catch", "synchronized", "assert", "package", "Object",
                "Random", "Thread", "HashMap", "Map", "Set", "nanoTime", "currentTimeMillis", "getClass", "native"}) {
            due.holds("no word " + word, !Pattern.compile("\\b" + word + "\\b").matcher(code).find());
        }
        due.holds("no lambda", !code.contains("->"));
        due.holds("no method reference", !code.contains("::"));
        due.holds("no Exact", !code.contains("Exact"));
        due.holds("no text", !code.contains("\""));
        Matcher imports = Pattern.compile("import ([\\w.]+);").matcher(code);
        while (imports.find()) {
            due.holds("import of " + imports.group(1), imports.group(1).equals("java.util.Arrays"));
        }
        Matcher calls = Pattern.compile("\\b(Arrays|System|Math|Integer|Long)\\.(\\w+)").matcher(code);
        Set<String> allowed = new HashSet<>(Arrays.asList("Arrays.fill", "Arrays.copyOf", "Arrays.copyOfRange",
                "System.arraycopy", "Math.min", "Math.max", "Math.abs", "Math.floorMod"));
        while (calls.find()) {
            due.holds("library " + calls.group(), allowed.contains(calls.group()));
        }
    }

    /** Rules 9 and 11: each loop counts against a bound, and methods stay short. */
    private static void shapes() throws IOException {
        List<String> lines = Files.readAllLines(PROGRAM);
        Pattern loop = Pattern.compile("\\s*for \\(int \\w+ = [^;]+; [^;]*[<>][^;]*; \\w+(\\+\\+|--| \\+= \\d+)\\) \\{");
        Pattern head = Pattern.compile("( {4}| {8})(?=\\w)(?!if\\b|for\\b|switch\\b|return\\b)[\\w\\[\\] ]+\\([^()]*\\) \\{");
        int methods = 0;
        int begun = 0;
        String end = "none";
        for (int k = 0; k < lines.size(); k++) {
            String line = lines.get(k);
            if (line.matches("\\s*(for|while|do)\\b.*")) {
                due.holds("a loop that counts: " + line.trim(), loop.matcher(line).matches());
            }
            Matcher method = head.matcher(line);
            if (method.matches()) {
                methods++;
                begun = k;
                end = method.group(1) + "}";
            }
            if (line.equals(end)) {
                due.holds(lines.get(begun).trim() + " has some sixty lines at most", k - begun < 60);
                end = "none";
            }
        }
        due.holds("methods were seen: " + methods, methods > 150);
    }

    public static void main(String[] args) throws IOException {
        members();
        classesInside();
        words();
        shapes();
        due.end("FaceTest");
    }
}
