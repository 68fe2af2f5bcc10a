import java.lang.reflect.Constructor;
import java.lang.reflect.Field;
import java.lang.reflect.Method;
import java.lang.reflect.Modifier;
import java.nio.file.Files;
import java.nio.file.Path;
import java.util.ArrayList;
import java.util.List;
import java.util.Set;
import java.util.TreeSet;
import java.util.regex.Matcher;
import java.util.regex.Pattern;

/** Those rules of LANGUAGE.md that can be seen from the file and the class. */
public final class LanguageTest {
    private static final Path SOURCE = Path.of("src/main/java/FirstPolls.java");
    private static final Path DOCUMENT = Path.of("../shared/DOC.md");

    private static void none(String what, List<String> lines, String pattern) {
        Pattern wrong = Pattern.compile(pattern);
        for (int i = 0; i < lines.size(); i++) {
            Check.due(what + " in line " + (i + 1), wrong.matcher(lines.get(i)).find() ? 1 : 0, 0);
        }
    }

    private static List<String> withoutComments(List<String> lines) {
        List<String> code = new ArrayList<>();
        for (String line : lines) {
            String bare = line.trim();
            boolean comment = bare.startsWith("//") || bare.startsWith("*") || bare.startsWith("/*");
            code.add(comment ? "" : line);
        }
        return code;
    }

    private static void wordsThatAreOut(List<String> code) {
        none("a word of rule 6", code, "\\b(throw|throws|try|catch|synchronized|assert)\\b");
        none("a lambda or method reference", code, "->|::");
        none("another library", code, "^import (?!java\\.util\\.Arrays;)");
        none("a function whose name ends in Exact", code, "Exact\\(");
        none("texts joined by +", code, "\"\\s*\\+|\\+\\s*\"|^\\s*\\+ \"");
        none("what depends on the machine", code,
                "System\\.(?!arraycopy)|Thread|Random|\\.hashCode|\\.toString|\\.equals|new Object");
        none("a sign beyond 127", code, "[^\\x00-\\x7f]");
        none("a class in a method", code, "^ {8,}.*\\b(class|record|enum|interface)\\b");
        none("a class without a name", code, "\\bnew \\w+\\([^)]*\\) \\{");
        none("a loop without an end", code, "while \\(true\\)|for \\([^;]*;\\s*;");
        none("a static block", code, "static \\{");
        none("a static row that is changed", code, "DIGITS\\[[^]]*\\] *[-+*/|&^]?=[^=]");
    }

    private static void shortMethods(List<String> lines) {
        Pattern head = Pattern.compile("^( {4}| {8})(?!\\s)[A-Za-z][\\w\\[\\] ]*\\(.*");
        for (int i = 0; i < lines.size(); i++) {
            Matcher m = head.matcher(lines.get(i));
            if (!m.matches() || lines.get(i).contains("=") || lines.get(i).endsWith(";")) {
                continue;
            }
            int end = i;
            while (!lines.get(end).equals(m.group(1) + "}")) {
                end++;
            }
            Check.due(lines.get(i).trim() + " is short", end - i + 1 <= 60 ? 1 : 0, 1);
            i = end;
        }
    }

    private static List<Class<?>> classes() {
        List<Class<?>> all = new ArrayList<>();
        all.add(FirstPolls.class);
        for (Class<?> inside : FirstPolls.class.getDeclaredClasses()) {
            all.add(inside);
            Check.due(inside + " is static", Modifier.isStatic(inside.getModifiers()) ? 1 : 0, 1);
            Check.due(inside + " has none inside", inside.getDeclaredClasses().length, 0);
        }
        Check.due("at most twelve classes", all.size() <= 12 ? 1 : 0, 1);
        return all;
    }

    private static final Set<String> LIBRARY = Set.of("java/lang/Object.<init>()V",
            "java/util/Arrays.fill([II)V", "java/util/Arrays.fill([JJ)V",
            "java/lang/String.charAt(I)C",
            "java/lang/System.arraycopy(Ljava/lang/Object;ILjava/lang/Object;II)V",
            "java/lang/Math.max(II)I", "java/lang/Math.min(II)I", "java/lang/Math.min(JJ)J",
            "java/lang/Math.abs(I)I",
            "java/lang/Integer.bitCount(I)I", "java/lang/Integer.numberOfTrailingZeros(I)I",
            "java/lang/Integer.numberOfLeadingZeros(I)I");

    /** Rule 4: the compiled classes use their own members and those of the library's list alone. */
    private static void library() throws Exception {
        for (Class<?> of : classes()) {
            ClassFile file = new ClassFile(of);
            Check.due(of + " has lambdas or joins texts by +", file.isDynamic ? 1 : 0, 0);
            for (String member : file.used) {
                boolean fine = member.startsWith("FirstPolls") || LIBRARY.contains(member);
                Check.due(of + " may use " + member, fine ? 1 : 0, 1);
            }
        }
    }

    /** Rule 3: numbers, rows of numbers, own classes and rows of these. */
    private static void types() {
        for (Class<?> of : classes()) {
            for (Field field : of.getDeclaredFields()) {
                Class<?> type = field.getType();
                Class<?> part = type.isArray() ? type.getComponentType() : type;
                boolean own = part.getName().startsWith("FirstPolls");
                boolean fine = part.isPrimitive() || own || type == String.class;
                Check.due(field + " is of a type that may be", fine ? 1 : 0, 1);
            }
        }
    }

    private static boolean mayBeStatic(Class<?> type) {
        return Set.of(int.class, long.class, boolean.class, char.class, String.class, int[].class,
                long[].class, char[].class, byte[].class).contains(type);
    }

    private static void fieldsAndMethods(Set<String> face) {
        for (Class<?> of : classes()) {
            int fields = 0;
            for (Field field : of.getDeclaredFields()) {
                int has = field.getModifiers();
                if (!Modifier.isStatic(has)) {
                    fields++;
                    continue;
                }
                boolean fine = Modifier.isFinal(has) && mayBeStatic(field.getType());
                Check.due(field + " may be static", fine ? 1 : 0, 1);
            }
            Check.due(of + " has some twenty fields at most", fields <= 20 ? 1 : 0, 1);
            for (Method method : of.getDeclaredMethods()) {
                Check.due(method + " takes seven at most", method.getParameterCount() <= 7 ? 1 : 0, 1);
                boolean seen = of == FirstPolls.class && Modifier.isPublic(method.getModifiers());
                Check.due(method + " bears a public name",
                        !seen && face.contains(method.getName()) ? 1 : 0, 0);
                if (of == FirstPolls.class && !seen) {
                    Check.due(method + " is private",
                            Modifier.isPrivate(method.getModifiers()) ? 1 : 0, 1);
                }
            }
        }
    }

    private static Set<String> faceOfTheDocument() throws Exception {
        Set<String> face = new TreeSet<>();
        Matcher m = Pattern.compile("public int (\\w+)\\(([^)]*)\\);")
                .matcher(Files.readString(DOCUMENT));
        while (m.find()) {
            int many = m.group(2).isEmpty() ? 0 : m.group(2).split(",").length;
            face.add(m.group(1) + "/" + many);
        }
        return face;
    }

    private static Set<String> faceOfTheClass() {
        Set<String> face = new TreeSet<>();
        for (Method method : FirstPolls.class.getDeclaredMethods()) {
            if (Modifier.isPublic(method.getModifiers())) {
                face.add(method.getName() + "/" + method.getParameterCount());
                Check.due(method + " answers an int", method.getReturnType() == int.class ? 1 : 0, 1);
            }
        }
        return face;
    }

    private static void face() throws Exception {
        Set<String> names = new TreeSet<>();
        for (String method : faceOfTheClass()) {
            names.add(method.substring(0, method.indexOf('/')));
        }
        fieldsAndMethods(names);
        if (Files.exists(DOCUMENT)) {
            Check.due("the face is the document's: " + faceOfTheClass(),
                    faceOfTheClass().equals(faceOfTheDocument()) ? 1 : 0, 1);
        }
        for (Field field : FirstPolls.class.getDeclaredFields()) {
            boolean seen = !Modifier.isPrivate(field.getModifiers());
            Check.due(field + " is private, but NONE", seen ? 1 : 0,
                    field.getName().equals("NONE") ? 1 : 0);
        }
        Constructor<?>[] made = FirstPolls.class.getDeclaredConstructors();
        Check.due("one constructor", made.length, 1);
        Check.due("it is public", Modifier.isPublic(made[0].getModifiers()) ? 1 : 0, 1);
        int is = FirstPolls.class.getModifiers();
        Check.due("public and final", Modifier.isPublic(is) && Modifier.isFinal(is) ? 1 : 0, 1);
    }

    public static void main(String[] args) throws Exception {
        List<String> lines = Files.readAllLines(SOURCE);
        wordsThatAreOut(withoutComments(lines));
        shortMethods(lines);
        library();
        types();
        face();
        Check.close("LanguageTest");
    }
}
