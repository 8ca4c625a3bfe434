import java.io.IOException;
import java.lang.reflect.Constructor;
import java.lang.reflect.Field;
import java.lang.reflect.Method;
import java.lang.reflect.Modifier;
import java.nio.file.Files;
import java.nio.file.Path;
import java.util.Arrays;
import java.util.List;
import java.util.Set;
import java.util.TreeSet;
import java.util.stream.Collectors;

/** The class has the document's public face, and no other member that others could see. */
public final class FaceTest {
    private static final String[] FACE = {
        "boolean sign(int)",
        "void clear()",
        "void fold(int,int) throws",
        "int enter(int,int) throws",
        "int bar(boolean)",
        "int merge(int,int,int,int) throws",
        "int seek(int) throws",
        "int candidate(int) throws",
        "int at(int,int) throws",
        "int begins(int) throws",
        "int ends(int) throws",
        "int mixed(int) throws",
        "int many(int,int) throws",
        "int letters(int,int) throws",
        "int letter(int,int) throws",
        "int tell(int,int) throws",
        "int common(int) throws"
    };

    private static final String INDENT = "    ";

    public static void main(String[] args) throws IOException {
        int modifiers = WordLists.class.getModifiers();
        Check.due("public", true, Modifier.isPublic(modifiers));
        Check.due("final", true, Modifier.isFinal(modifiers));
        constructors();
        methods();
        fields();
        asTheDocumentWritesIt();
        Check.end();
    }

    /** With the arguments' names, too, which a compiled class does not tell. */
    private static void asTheDocumentWritesIt() throws IOException {
        List<String> document = Files.readAllLines(Path.of("../shared/DOC.md"));
        int start = document.indexOf("```java") + 1;
        List<String> face = document.subList(start, start + document.subList(start, document.size()).indexOf("```"));
        List<String> wanted = face.stream().filter(line -> !line.equals("}"))
            .map(line -> line.replaceAll(";$", " {")).collect(Collectors.toList());
        List<String> written = Files.readAllLines(Path.of("src/main/java/WordLists.java")).stream()
            .filter(line -> line.startsWith("public ") || line.startsWith(INDENT + "public ")).collect(Collectors.toList());
        if (!written.equals(wanted)) {
            Check.report("the face is written " + written + ", due is " + wanted);
        }
        List<String> promised = document.stream().filter(line -> line.startsWith("`") && line.contains("`: "))
            .map(line -> INDENT + "public " + line.substring(1, line.indexOf("`: ")) + ";").collect(Collectors.toList());
        if (!promised.equals(face.subList(1, face.size() - 1))) {
            Check.report("the promises are of " + promised + ", the face has " + face);
        }
    }

    private static void constructors() {
        Constructor<?>[] all = WordLists.class.getDeclaredConstructors();
        Check.due("constructors", 1, all.length);
        Check.due("its parameters", 0, all[0].getParameterCount());
        Check.due("it is public", true, Modifier.isPublic(all[0].getModifiers()));
    }

    private static void methods() {
        Set<String> visible = new TreeSet<>();
        Set<String> publicNames = new TreeSet<>();
        for (Method method : WordLists.class.getDeclaredMethods()) {
            if (!Modifier.isPrivate(method.getModifiers())) {
                visible.add(signature(method));
                publicNames.add(method.getName());
                Check.due(signature(method) + " is public", true, Modifier.isPublic(method.getModifiers()));
                Check.due(signature(method) + " is static", false, Modifier.isStatic(method.getModifiers()));
            }
        }
        Set<String> wanted = new TreeSet<>(Arrays.asList(FACE));
        if (!visible.equals(wanted)) {
            Check.report("the face is " + visible + ", due is " + wanted);
        }
        for (Method method : WordLists.class.getDeclaredMethods()) {
            if (Modifier.isPrivate(method.getModifiers()) && publicNames.contains(method.getName())) {
                Check.report("a private method bears the public name " + method.getName());
            }
        }
    }

    private static String signature(Method method) {
        StringBuilder text = new StringBuilder(method.getReturnType() + " " + method.getName() + "(");
        for (Class<?> type : method.getParameterTypes()) {
            text.append(text.charAt(text.length() - 1) == '(' ? "" : ",").append(type);
        }
        text.append(")");
        for (Class<?> type : method.getExceptionTypes()) {
            text.append(type == ArrayIndexOutOfBoundsException.class ? " throws" : " throws " + type);
        }
        return text.toString();
    }

    private static void fields() {
        for (Field field : WordLists.class.getDeclaredFields()) {
            int modifiers = field.getModifiers();
            Check.due("field " + field.getName() + " is private", true, Modifier.isPrivate(modifiers));
            if (Modifier.isStatic(modifiers)) {
                Check.due("static field " + field.getName() + " is final", true, Modifier.isFinal(modifiers));
            }
        }
    }
}
