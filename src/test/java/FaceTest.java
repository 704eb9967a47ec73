import java.io.IOException;
import java.lang.reflect.Constructor;
import java.lang.reflect.Field;
import java.lang.reflect.Method;
import java.lang.reflect.Modifier;
import java.nio.file.Files;
import java.nio.file.Path;
import java.util.ArrayList;
import java.util.List;
import java.util.Set;
import java.util.TreeSet;
import java.util.regex.Matcher;
import java.util.regex.Pattern;

/** The public face, and what can be told of LANGUAGE.md without reading the code. */
public final class FaceTest {
    private static final String[] FACE = {"int write(int)", "int wipe()", "int fault()", "int well()", "int about(int)",
        "int thing(int,int)", "int question(int,int)", "int deed(int,int)", "int drink(int)", "int act(int)", "int day()",
        "int undo()", "int can(int)", "int mean(int)", "int worst(int)", "int regret(int)", "int never()",
        "int shortFor(int)", "int partners(int,int,int,int)", "int keeper(int,int,int)", "int byTurns(int,int)",
        "int see(int,boolean)", "int unsee()", "int knew(int)", "long seed(long)", "int drinkers(int)", "int keep(int)",
        "int again(int)"};
    private static final Check C = new Check();

    public static void main(String[] args) throws IOException {
        face();
        classesInside();
        source(Files.readString(Path.of("src/main/java/EyeDrink.java")));
        C.end();
    }

    private static String signature(Method m) {
        List<String> types = new ArrayList<>();
        for (Class<?> type : m.getParameterTypes()) {
            types.add(type.getName());
        }
        return m.getReturnType().getName() + " " + m.getName() + "(" + String.join(",", types) + ")";
    }

    private static void face() {
        C.holds("public and final", Modifier.isPublic(EyeDrink.class.getModifiers())
                && Modifier.isFinal(EyeDrink.class.getModifiers()));
        Set<String> open = new TreeSet<>();
        for (Method m : EyeDrink.class.getDeclaredMethods()) {
            if (!Modifier.isPrivate(m.getModifiers())) {
                C.holds(m + " is public, of the object", Modifier.isPublic(m.getModifiers())
                        && !Modifier.isStatic(m.getModifiers()));
                open.add(signature(m));
            }
        }
        C.holds("the methods of the document and no other: " + open, open.equals(new TreeSet<>(List.of(FACE))));
        Constructor<?>[] constructors = EyeDrink.class.getDeclaredConstructors();
        C.holds("one public constructor without arguments", constructors.length == 1
                && Modifier.isPublic(constructors[0].getModifiers()) && constructors[0].getParameterCount() == 0);
        Set<String> constants = new TreeSet<>();
        for (Field f : EyeDrink.class.getDeclaredFields()) {
            if (!Modifier.isPrivate(f.getModifiers())) {
                constants.add(f.getName());
            }
        }
        C.holds("constants: " + constants,
                constants.equals(new TreeSet<>(List.of("UNKNOWN", "BAD", "LATE", "FULL", "NONE"))));
        C.due("UNKNOWN", EyeDrink.UNKNOWN, -1);
        C.due("BAD", EyeDrink.BAD, -2);
        C.due("LATE", EyeDrink.LATE, -3);
        C.due("FULL", EyeDrink.FULL, -4);
        C.due("NONE", EyeDrink.NONE, -9);
    }

    private static void classesInside() {
        Set<String> publicNames = new TreeSet<>();
        for (String method : FACE) {
            publicNames.add(method.substring(method.indexOf(' ') + 1, method.indexOf('(')));
        }
        Class<?>[] inside = EyeDrink.class.getDeclaredClasses();
        C.holds("twelve classes at most", inside.length < 12);
        for (Class<?> c : inside) {
            C.holds(c + " is static", Modifier.isStatic(c.getModifiers()) && !Modifier.isPublic(c.getModifiers()));
            int fields = 0;
            for (Field f : c.getDeclaredFields()) {
                boolean isStatic = Modifier.isStatic(f.getModifiers());
                C.holds(f + " is final, if static", !isStatic || Modifier.isFinal(f.getModifiers()));
                fields += isStatic ? 0 : 1;
            }
            C.holds(c + " has twenty fields at most", fields <= 20);
            for (Method m : c.getDeclaredMethods()) {
                C.holds(m + " bears no public name", !publicNames.contains(m.getName()));
                C.holds(m + " has seven parameters at most", m.getParameterCount() <= 7);
            }
        }
    }

    private static void source(String source) {
        String code = source.replaceAll("(?s)/\\*.*?\\*/", "").replaceAll("//[^\n]*", "");
        String[] never = {"throw", "throws", "try", "catch", "finally", "synchronized", "assert", "equals", "hashCode",
            "toString", "Random", "Thread", "System\\.(?!arraycopy)", "->", "::", "import (?!java\\.util\\.Arrays;)",
            "Exact", "package", "native", "volatile"};
        for (String word : never) {
            Matcher m = Pattern.compile(word.matches("\\w+") ? "\\b" + word + "\\b" : word).matcher(code);
            C.holds("no " + word, !m.find());
        }
        for (int i = 0; i < source.length(); i++) {
            char sign = source.charAt(i);
            if (sign > 126 || sign < 32 && sign != '\n') {
                C.holds("a plain sign at " + i, false);
            }
        }
    }
}
