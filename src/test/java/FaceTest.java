import java.io.IOException;
import java.lang.reflect.Constructor;
import java.lang.reflect.Field;
import java.lang.reflect.Member;
import java.lang.reflect.Method;
import java.lang.reflect.Modifier;
import java.nio.file.Files;
import java.nio.file.Path;
import java.util.ArrayList;
import java.util.Arrays;
import java.util.List;
import java.util.Set;
import java.util.TreeSet;
import java.util.regex.Matcher;
import java.util.regex.Pattern;

/** The public face, and what of LANGUAGE.md can be seen from outside. */
public final class FaceTest {
    private static final String[] FACE = {"write 1", "wipe 0", "fault 0", "lay 0", "step 2", "younger 2", "pass 1", "put 2",
        "quarrel 2", "cats 2", "undo 0", "behind 2", "goes 1", "least 2", "round 0", "best 3", "help 1", "see 2", "forget 0",
        "within 2", "isCats 1", "was 3", "snows 4", "year 3", "keep 0", "back 0", "count 1"};
    private static final Path SOURCE = Path.of("src/main/java/YoungerMilk.java");

    public static void main(String[] args) throws IOException {
        constants();
        methods();
        classes();
        source();
        Due.end();
    }

    private static void holds(String what, boolean so) {
        Due.is(what, so ? 1 : 0, 1);
    }

    private static void constants() {
        Due.is("BAD", YoungerMilk.BAD, -1);
        Due.is("NO", YoungerMilk.NO, -2);
        Due.is("FULL", YoungerMilk.FULL, -3);
        Due.is("NONE", YoungerMilk.NONE, -4);
        for (Field field : YoungerMilk.class.getDeclaredFields()) {
            boolean ofFace = List.of("BAD", "NO", "FULL", "NONE").contains(field.getName());
            int must = ofFace ? Modifier.PUBLIC | Modifier.STATIC | Modifier.FINAL : Modifier.PRIVATE;
            holds(field + " is as rule 1 tells", (field.getModifiers() & must) == must);
        }
    }

    private static void methods() {
        holds("the class is public and final",
            YoungerMilk.class.getModifiers() == (Modifier.PUBLIC | Modifier.FINAL));
        Constructor<?>[] made = YoungerMilk.class.getDeclaredConstructors();
        holds("one public constructor without parameters",
            made.length == 1 && made[0].getParameterCount() == 0 && Modifier.isPublic(made[0].getModifiers()));
        Set<String> names = new TreeSet<>();
        Set<String> shown = new TreeSet<>();
        for (String call : FACE) {
            names.add(call.substring(0, call.indexOf(' ')));
        }
        for (Method method : YoungerMilk.class.getDeclaredMethods()) {
            if (!Modifier.isPrivate(method.getModifiers())) {
                shown.add(method.getName() + " " + method.getParameterCount());
                holds(method + " is public, of ints", method.getModifiers() == Modifier.PUBLIC
                    && method.getReturnType() == int.class
                    && Arrays.stream(method.getParameterTypes()).allMatch(type -> type == int.class));
            } else {
                holds(method + " bears no name of the face", !names.contains(method.getName()));
            }
        }
        holds("the methods of the face, but not " + shown, shown.equals(new TreeSet<>(Arrays.asList(FACE))));
    }

    private static void classes() {
        Class<?>[] inside = YoungerMilk.class.getDeclaredClasses();
        holds("at most some twelve classes", inside.length <= 12);
        for (Class<?> one : inside) {
            int modifiers = one.getModifiers();
            holds(one + " is static, and not public or protected",
                Modifier.isStatic(modifiers) && !Modifier.isPublic(modifiers) && !Modifier.isProtected(modifiers));
        }
        List<Class<?>> all = new ArrayList<>(Arrays.asList(inside));
        all.add(YoungerMilk.class);
        for (Class<?> one : all) {
            int fields = 0;
            for (Field field : one.getDeclaredFields()) {
                boolean isStatic = Modifier.isStatic(field.getModifiers());
                fields += isStatic ? 0 : 1;
                holds(field + " is final, if static", !isStatic || Modifier.isFinal(field.getModifiers()));
            }
            holds(one + " has some twenty fields at most", fields <= 20);
            for (Method method : one.getDeclaredMethods()) {
                holds(method + " takes at most seven parameters", method.getParameterCount() <= 7);
            }
        }
    }

    /** Words that the language leaves out; and no call of the document throws. */
    private static void source() throws IOException {
        String text = Files.readString(SOURCE).replaceAll("/\\*\\*.*?\\*/|//.*", "");
        Matcher out = Pattern.compile("\\b(import|package|throw|throws|catch|finally|synchronized|assert|Random|Thread|"
            + "Object|\\w+Exact)\\b|->|::|[^\\x00-\\x7f]").matcher(text);
        while (out.find()) {
            holds("'" + out.group() + "' is not in the source", false);
        }
    }
}
