import java.lang.reflect.Constructor;
import java.lang.reflect.Field;
import java.lang.reflect.Method;
import java.lang.reflect.Modifier;
import java.nio.file.Files;
import java.nio.file.Path;
import java.util.Arrays;
import java.util.List;
import java.util.Set;
import java.util.TreeSet;
import java.util.stream.Collectors;

/** The face that the document lists, and the rules of LANGUAGE.md that a text search can look after. */
public final class FaceTest {
    private static final List<String> FACE = List.of(
        "int append(int,int) IllegalArgumentException IllegalStateException",
        "int feed(long,int) IllegalArgumentException IllegalStateException",
        "int set(int,int) IndexOutOfBoundsException IllegalArgumentException",
        "int cut(int) IllegalArgumentException",
        "int size()",
        "int count(int,int,int) IndexOutOfBoundsException",
        "int setLimit(int) IllegalArgumentException",
        "boolean setPrices(int,int) IllegalArgumentException",
        "int setGreatest(int) IllegalArgumentException",
        "int costOf(int,int) IndexOutOfBoundsException",
        "int plan()",
        "boolean hasPlan()",
        "int cost() IllegalStateException",
        "int start(int) IllegalStateException IndexOutOfBoundsException",
        "int length(int,int) IllegalStateException IndexOutOfBoundsException",
        "int word(int,int) IllegalStateException IndexOutOfBoundsException",
        "int slack(int) IllegalStateException IndexOutOfBoundsException",
        "int look(int,int) IllegalStateException IndexOutOfBoundsException IllegalArgumentException",
        "int gain() IllegalStateException NoSuchElementException",
        "int write() IllegalStateException",
        "int bitCount()",
        "int bit(int) IndexOutOfBoundsException",
        "int flip(int) IndexOutOfBoundsException",
        "int read() IllegalStateException",
        "int got(int) IndexOutOfBoundsException",
        "int differences()",
        "double average() IllegalStateException",
        "long digest()");

    /** No catch at all: the class needs none, so nothing that the machine throws can be hidden. */
    private static final List<String> RULED_OUT = List.of(
        "->", "::", "catch", "finally", "try {", "synchronized", "assert ", "static {", "Exact(", "float ",
        "hashCode", "toString", "equals(", "System.out", "Random", "nanoTime", "currentTimeMillis");

    private FaceTest() {
    }

    public static void main(String[] args) throws Exception {
        Check check = new Check();
        Class<?> face = BlockCoder.class;
        check.same("modifiers", Modifier.toString(face.getModifiers()), "public final");
        compareMethods(check, face);
        for (Constructor<?> constructor : face.getDeclaredConstructors()) {
            check.same("the constructor", constructor.toString(), "public BlockCoder()");
        }
        for (Field field : face.getDeclaredFields()) {
            check.same("private " + field, "" + Modifier.isPrivate(field.getModifiers()), "true");
        }
        compareInside(check, face);
        compareSource(check, Files.readString(Path.of("src/main/java/BlockCoder.java")));
        check.finish("FaceTest");
    }

    private static void compareMethods(Check check, Class<?> face) {
        Set<String> open = new TreeSet<>();
        Set<String> openNames = new TreeSet<>();
        Set<String> closedNames = new TreeSet<>();
        for (Method method : face.getDeclaredMethods()) {
            if (Modifier.isPrivate(method.getModifiers())) {
                closedNames.add(method.getName());
            } else {
                open.add(textOf(method));
                openNames.add(method.getName());
                check.same("plainly public " + method, Modifier.toString(method.getModifiers()), "public");
            }
        }
        check.same("the methods", open.toString(), new TreeSet<>(FACE).toString());
        closedNames.retainAll(openNames);
        check.same("private methods with public names", closedNames.toString(), "[]");
    }

    private static String textOf(Method method) {
        String types = names(method.getParameterTypes()).collect(Collectors.joining(","));
        String thrown = names(method.getExceptionTypes()).map(name -> " " + name).collect(Collectors.joining());
        return method.getReturnType() + " " + method.getName() + "(" + types + ")" + thrown;
    }

    private static java.util.stream.Stream<String> names(Class<?>[] types) {
        return Arrays.stream(types).map(Class::getSimpleName);
    }

    private static void compareInside(Check check, Class<?> face) {
        Class<?>[] inside = face.getDeclaredClasses();
        check.same("at most twelve classes", "" + (inside.length + 1 <= 12), "true");
        for (Class<?> one : inside) {
            check.same("modifiers of " + one, Modifier.toString(one.getModifiers()), "private static final");
            check.same("at most twenty fields in " + one, "" + (one.getDeclaredFields().length <= 20), "true");
        }
    }

    private static void compareSource(Check check, String source) {
        for (String text : RULED_OUT) {
            check.same("the source holds " + text, "" + source.contains(text), "false");
        }
        List<String> imports = source.lines().filter(line -> line.startsWith("import ")).toList();
        check.same("imports", imports.toString(),
            "[import java.util.Arrays;, import java.util.NoSuchElementException;]");
        check.same("signs above 127", "" + source.chars().anyMatch(sign -> sign > 127), "false");
    }
}
