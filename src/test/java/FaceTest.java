import java.io.IOException;
import java.lang.reflect.Constructor;
import java.lang.reflect.Field;
import java.lang.reflect.Method;
import java.lang.reflect.Modifier;
import java.nio.file.Files;
import java.nio.file.Path;
import java.util.ArrayList;
import java.util.Arrays;
import java.util.List;
import java.util.Set;
import java.util.TreeSet;
import java.util.regex.Matcher;
import java.util.regex.Pattern;

/** The face of the document, and those rules of ../shared/LANGUAGE.md that can be seen from outside. */
public final class FaceTest {
    private static final Path SOURCE = Path.of("src/main/java/SegmentYard.java");
    private static final String[] FACE = {
        "int type(int,int,int,int) ISE", "void tie(int,int,int,int) ISE", "void open(int,int,int) IA",
        "int argument(int,int) ISE", "int condition(boolean,int,int,int) ISE", "int clear() ",
        "int put(int,int,int) IA", "int area(int,int) I", "int get(int,int,boolean) IA", "int insert(int) I",
        "int replace(int) I", "int delete(int) I", "int types() ", "int count(int) I", "int rowAt(int,int) I",
        "int rowAnew(int,int) I", "int fieldAt(int,int,int) I", "int at(int) I", "int ahead(int) I",
        "int parent(int) I", "int holds(int) I", "long keys(int) I", "int second(int) I", "int tied(int) I",
    };
    private static final String[] CONSTANTS = {
        "NONE -1", "UNIQUE 0", "MANY 1", "UNKEYED 2", "FIRST 0", "LAST 1", "HERE 2", "MUST 0", "MAKE 1", "BOUND 0",
        "LOOSE 1", "ALL 2", "PATH 1", "FIRST_TWIN 2", "LAST_TWIN 4", "HELD_HERE 8", "PARENTAGE 16", "KEPT 32",
        "SAME 0", "UNLIKE 1", "LESS 2", "AT_MOST 3", "GREATER 4", "AT_LEAST 5", "UNIQUE_GET 0", "NEXT 1", "WITHIN 2",
        "OK 0", "HIGHER 1", "OTHER 2", "END 3", "BAD 4", "NO_PARENT 5", "NOT_HELD 6", "NOT_FOUND 7",
        "KEY_CHANGED 8", "DOUBLE 9", "NO_TARGET 10", "FULL 11", "TIED 12",
    };

    public static void main(String[] args) throws IOException, IllegalAccessException {
        Due.part("the face");
        Class<?> face = SegmentYard.class;
        Due.isTrue("public and final", face.getModifiers() == (Modifier.PUBLIC | Modifier.FINAL));
        Constructor<?>[] constructors = face.getDeclaredConstructors();
        Due.isTrue("one constructor, public", constructors.length == 1
            && Modifier.isPublic(constructors[0].getModifiers()) && constructors[0].getParameterCount() == 0);
        Due.isTrue("the methods", methods(face).equals(new TreeSet<>(Arrays.asList(FACE))));
        Due.isTrue("the constants", constants(face).equals(new TreeSet<>(Arrays.asList(CONSTANTS))));
        Due.part("the language");
        nested(face);
        source(Files.readString(SOURCE));
        Due.end();
    }

    /** The methods that are not private, with what they throw: I, A and S for the three exceptions. */
    private static Set<String> methods(Class<?> face) {
        Set<String> methods = new TreeSet<>();
        Set<String> hidden = new TreeSet<>();
        for (Method m : face.getDeclaredMethods()) {
            if (Modifier.isPrivate(m.getModifiers())) {
                hidden.add(m.getName());
                continue;
            }
            List<String> types = new ArrayList<>();
            for (Class<?> type : m.getParameterTypes()) {
                types.add(type.getSimpleName());
            }
            List<Class<?>> thrown = Arrays.asList(m.getExceptionTypes());
            List<Class<?>> order = List.of(IndexOutOfBoundsException.class, IllegalArgumentException.class,
                IllegalStateException.class);
            Due.isTrue(m.getName() + " throws in order", thrown.equals(order.subList(0, thrown.size())));
            Due.isTrue(m.getName() + " is public", m.getModifiers() == Modifier.PUBLIC);
            methods.add(m.getReturnType().getSimpleName() + " " + m.getName() + "(" + String.join(",", types) + ") "
                + new String[] {"", "I", "IA", "ISE"}[thrown.size()]);
        }
        for (String method : methods) {
            String name = method.replaceAll(".* (\\w+)\\(.*", "$1");
            Due.isTrue("no private method is named " + name, !hidden.contains(name));
        }
        return methods;
    }

    private static Set<String> constants(Class<?> face) throws IllegalAccessException {
        Set<String> constants = new TreeSet<>();
        for (Field f : face.getDeclaredFields()) {
            if (Modifier.isStatic(f.getModifiers())) {
                Due.isTrue(f.getName() + " is final", Modifier.isFinal(f.getModifiers()));
            }
            if (!Modifier.isPrivate(f.getModifiers())) {
                Due.isTrue(f.getName() + " is static", Modifier.isStatic(f.getModifiers()));
                constants.add(f.getName() + " " + f.getInt(null));
            }
        }
        return constants;
    }

    private static void nested(Class<?> face) {
        Class<?>[] classes = face.getDeclaredClasses();
        Due.isTrue("at most twelve classes", classes.length < 12);
        for (Class<?> c : classes) {
            int fields = 0;
            for (Field f : c.getDeclaredFields()) {
                fields += Modifier.isStatic(f.getModifiers()) ? 0 : 1;
            }
            Due.isTrue(c.getName() + " has few fields", fields <= 20);
            Due.isTrue(c.getName() + " is static", Modifier.isStatic(c.getModifiers()));
            Due.isTrue(c.getName() + " is not public", !Modifier.isPublic(c.getModifiers()));
            for (Method m : c.getDeclaredMethods()) {
                Due.isTrue(m.getName() + " has at most seven parameters", m.getParameterCount() <= 7);
            }
        }
    }

    private static void source(String text) {
        String code = text.replaceAll("(?s)/\\*.*?\\*/", "").replaceAll("//[^\n]*", "");
        for (String word : new String[] {"import", "catch", "finally", "instanceof", "assert", "synchronized",
            "->", "::", "package", "float", "double", "Object", "System", "while"}) {
            Due.isTrue("the source has no " + word, !Pattern.compile("(?<!\\w)" + word + "(?!\\w)").matcher(code).find());
        }
        Matcher method = Pattern.compile("(?m)^( {4}| {8})[^\\s/*][^\n;=]*\\)[^\n;=]*\\{\n(.*?)^\\1\\}", Pattern.DOTALL)
            .matcher(text);
        int methods = 0;
        while (method.find()) {
            methods++;
            Due.isTrue("short: " + method.group().trim().split("\n")[0], method.group(2).lines().count() <= 60);
        }
        Due.isTrue("the methods are found in the source", methods > 100);
    }
}
