import java.io.IOException;
import java.lang.reflect.Constructor;
import java.lang.reflect.Field;
import java.lang.reflect.Method;
import java.lang.reflect.Modifier;
import java.nio.charset.StandardCharsets;
import java.nio.file.Files;
import java.nio.file.Path;
import java.util.Arrays;
import java.util.Set;
import java.util.TreeSet;

/** The class has the document's face and no other, and keeps to what of LANGUAGE.md can be seen from outside. */
public final class FaceTest {
    private static final String[] FACE = {
        "int feed(int,int,int,int,int)", "boolean end(int)", "int fault(int)", "int text(int)", "int brigade(int,int)",
        "int window(int,int)", "int law(int)", "boolean change(int,int)", "boolean rule(int,int)",
        "int reaches(int,int)", "int told(int,int,int)", "int all(int,int)", "int child(int,int,int)",
        "int best(int,int,int)", "int rests(int)", "int most(int)", "int loss()", "int laws(int)", "int bribe()",
        "int choice()", "int ash(int,int,int)", "int explain(int)", "int knocked()", "int joined(int,int)",
        "int reach(int)", "int alone(int,int)", "int night(int)", "int drawn(int,long)", "int undo()", "int image()",
        "int back()", "int count(int)"};
    private static final String[] RULED_OUT = {"->", "::", "catch", "finally", "synchronized", "assert ", "Exact(",
        "static {", "\" +", "+ \"", "System.nanoTime", "System.currentTimeMillis", "Random", "Thread", "String."};

    private FaceTest() {
    }

    private static String told(Method method) {
        StringBuilder made = new StringBuilder(method.getReturnType().getSimpleName());
        made.append(' ').append(method.getName()).append('(');
        String between = "";
        for (Class<?> type : method.getParameterTypes()) {
            made.append(between).append(type.getSimpleName());
            between = ",";
        }
        return made.append(')').toString();
    }

    private static void members() {
        Class<?> face = ThreeLadders.class;
        Due.is("public and final", face.getModifiers(), Modifier.PUBLIC | Modifier.FINAL);
        Set<String> found = new TreeSet<>();
        Set<String> names = new TreeSet<>();
        for (Method method : face.getDeclaredMethods()) {
            if (!Modifier.isPrivate(method.getModifiers())) {
                Due.is(method + " is public, not static", method.getModifiers(), Modifier.PUBLIC);
                found.add(told(method));
                names.add(method.getName());
            }
        }
        Due.is("the face is " + found, found.equals(new TreeSet<>(Arrays.asList(FACE))), true);
        for (Method method : face.getDeclaredMethods()) {
            boolean hidden = Modifier.isPrivate(method.getModifiers());
            Due.is(method + " bears a name of the face", hidden && names.contains(method.getName()), false);
        }
        Constructor<?>[] made = face.getDeclaredConstructors();
        Due.is("one constructor", made.length == 1 && Modifier.isPublic(made[0].getModifiers()), true);
        int constants = 0;
        for (Field field : face.getDeclaredFields()) {
            if (Modifier.isPublic(field.getModifiers())) {
                constants++;
            } else {
                Due.is(field + " is private", Modifier.isPrivate(field.getModifiers()), true);
            }
            if (Modifier.isStatic(field.getModifiers())) {
                Due.is(field + " is final", Modifier.isFinal(field.getModifiers()), true);
            }
        }
        Due.is("two constants", constants, 2);
    }

    private static void inside() {
        Class<?>[] classes = ThreeLadders.class.getDeclaredClasses();
        Due.is("twelve classes at most", classes.length < 12, true);
        for (Class<?> one : classes) {
            Due.is(one + " is static", Modifier.isStatic(one.getModifiers()), true);
            Due.is(one + " is not public", Modifier.isPublic(one.getModifiers()), false);
            for (Method method : one.getDeclaredMethods()) {
                Due.is(method + " takes seven at most", method.getParameterCount() <= 7, true);
            }
            int fields = 0;
            for (Field field : one.getDeclaredFields()) {
                fields += Modifier.isStatic(field.getModifiers()) ? 0 : 1;
            }
            Due.is(one + " has twenty fields at most", fields <= 20, true);
        }
    }

    private static void source(Path file) throws IOException {
        String text = Files.readString(file, StandardCharsets.US_ASCII);
        for (String sign : RULED_OUT) {
            Due.is("'" + sign + "' stands in the source", text.contains(sign), false);
        }
        Due.is("one import", text.split("\nimport |^import ", -1).length - 1, 1);
    }

    public static void main(String[] args) throws IOException {
        members();
        inside();
        if (args.length > 0) {
            source(Path.of(args[0]));
        }
        Due.end("FaceTest");
    }
}
