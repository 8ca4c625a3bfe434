import java.lang.reflect.Constructor;
import java.lang.reflect.Field;
import java.lang.reflect.Method;
import java.lang.reflect.Modifier;
import java.util.Arrays;
import java.util.Set;
import java.util.TreeSet;

/** The class has the document's public face, and no other member that others could see. */
public final class FaceTest {
    private static final String[] FACE = {
        "boolean sign(int)",
        "void clear()",
        "void fold(int,int) throws",
        "int enter(int,int) throws",
        "int bar(boolean)",
        "int merge(int,int,int,int) throws",
        "int seek(int) throws",
        "int candidate(int) throws",
        "int at(int,int) throws",
        "int begins(int) throws",
        "int ends(int) throws",
        "int mixed(int) throws",
        "int many(int,int) throws",
        "int letters(int,int) throws",
        "int letter(int,int) throws",
        "int tell(int,int) throws",
        "int common(int) throws"
    };

    public static void main(String[] args) {
        int modifiers = WordLists.class.getModifiers();
        Check.due("public", true, Modifier.isPublic(modifiers));
        Check.due("final", true, Modifier.isFinal(modifiers));
        constructors();
        methods();
        fields();
        Check.end();
    }

    private static void constructors() {
        Constructor<?>[] all = WordLists.class.getDeclaredConstructors();
        Check.due("constructors", 1, all.length);
        Check.due("its parameters", 0, all[0].getParameterCount());
        Check.due("it is public", true, Modifier.isPublic(all[0].getModifiers()));
    }

    private static void methods() {
        Set<String> visible = new TreeSet<>();
        Set<String> publicNames = new TreeSet<>();
        for (Method method : WordLists.class.getDeclaredMethods()) {
            if (!Modifier.isPrivate(method.getModifiers())) {
                visible.add(signature(method));
                publicNames.add(method.getName());
                Check.due(signature(method) + " is public", true, Modifier.isPublic(method.getModifiers()));
                Check.due(signature(method) + " is static", false, Modifier.isStatic(method.getModifiers()));
            }
        }
        Set<String> wanted = new TreeSet<>(Arrays.asList(FACE));
        if (!visible.equals(wanted)) {
            Check.report("the face is " + visible + ", due is " + wanted);
        }
        for (Method method : WordLists.class.getDeclaredMethods()) {
            if (Modifier.isPrivate(method.getModifiers()) && publicNames.contains(method.getName())) {
                Check.report("a private method bears the public name " + method.getName());
            }
        }
    }

    private static String signature(Method method) {
        StringBuilder text = new StringBuilder(method.getReturnType() + " " + method.getName() + "(");
        for (Class<?> type : method.getParameterTypes()) {
            text.append(text.charAt(text.length() - 1) == '(' ? "" : ",").append(type);
        }
        text.append(")");
        for (Class<?> type : method.getExceptionTypes()) {
            text.append(type == ArrayIndexOutOfBoundsException.class ? " throws" : " throws " + type);
        }
        return text.toString();
    }

    private static void fields() {
        for (Field field : WordLists.class.getDeclaredFields()) {
            int modifiers = field.getModifiers();
            Check.due("field " + field.getName() + " is private", true, Modifier.isPrivate(modifiers));
            if (Modifier.isStatic(modifiers)) {
                Check.due("static field " + field.getName() + " is final", true, Modifier.isFinal(modifiers));
            }
        }
    }
}
