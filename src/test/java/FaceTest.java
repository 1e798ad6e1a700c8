import java.lang.reflect.Constructor;
import java.lang.reflect.Field;
import java.lang.reflect.Method;
import java.lang.reflect.Modifier;
import java.nio.file.Files;
import java.nio.file.Path;
import java.util.ArrayList;
import java.util.Arrays;
import java.util.List;
import java.util.Set;
import java.util.TreeSet;

/** The face of the class is that of the document's code block, and nothing else can be seen. */
public final class FaceTest {
    public static void main(String[] args) throws Exception {
        Class<?> face = BranchingStory.class;
        Check.isTrue("public and final", () -> Modifier.isPublic(face.getModifiers()) && Modifier.isFinal(face.getModifiers()));
        compare(wanted(), found(face));
        for (Class<?> inner : face.getDeclaredClasses()) {
            Check.isTrue(inner.getSimpleName() + " is static and not public",
                    () -> Modifier.isStatic(inner.getModifiers()) && !Modifier.isPublic(inner.getModifiers()));
            hasNoNameOfTheFace(inner, face);
        }
        noPrivateNamesake(face);
        Check.end();
    }

    /** No private method bears the name of a public one. */
    private static void noPrivateNamesake(Class<?> face) {
        for (Method own : face.getDeclaredMethods()) {
            for (Method other : face.getDeclaredMethods()) {
                Check.isFalse("a private method " + own.getName(), () -> !Modifier.isPublic(own.getModifiers())
                        && Modifier.isPublic(other.getModifiers()) && own.getName().equals(other.getName()));
            }
        }
    }

    private static void compare(Set<String> wanted, Set<String> found) {
        Check.isTrue("the document's face is read", () -> wanted.size() == 38);
        for (String member : wanted) {
            Check.same(member, found.contains(member) ? "there" : "missing", "there");
        }
        for (String member : found) {
            Check.same(member, wanted.contains(member) ? "wanted" : "not wanted", "wanted");
        }
    }

    /** The members in the first code block of the document, each without its parameters' names. */
    private static Set<String> wanted() throws Exception {
        Set<String> wanted = new TreeSet<>();
        boolean inBlock = false;
        for (String line : Files.readAllLines(Path.of("../shared/DOC.md"))) {
            if (line.startsWith("```")) {
                if (inBlock) {
                    break;
                }
                inBlock = true;
            } else if (inBlock && line.startsWith("    public ")) {
                wanted.add(line.strip().replace(";", "").replaceAll("(int|boolean) [a-z]+([,)])", "$1$2"));
            }
        }
        return wanted;
    }

    private static Set<String> found(Class<?> face) throws Exception {
        Set<String> found = new TreeSet<>();
        for (Field field : face.getDeclaredFields()) {
            if (!Modifier.isPrivate(field.getModifiers())) {
                found.add(Modifier.toString(field.getModifiers()) + " " + field.getType() + " "
                        + field.getName() + " = " + field.get(null));
            }
        }
        for (Constructor<?> constructor : face.getDeclaredConstructors()) {
            found.add(Modifier.toString(constructor.getModifiers()) + " " + constructor.getName()
                    + list(constructor.getParameterTypes()));
        }
        for (Method method : face.getDeclaredMethods()) {
            if (!Modifier.isPrivate(method.getModifiers())) {
                Class<?>[] thrown = method.getExceptionTypes();
                List<String> names = new ArrayList<>();
                for (Class<?> exception : thrown) {
                    names.add(exception.getSimpleName());
                }
                found.add(Modifier.toString(method.getModifiers()) + " " + method.getReturnType() + " " + method.getName()
                        + list(method.getParameterTypes()) + (thrown.length == 0 ? "" : " throws " + String.join(", ", names)));
            }
        }
        return found;
    }

    private static String list(Class<?>[] types) {
        List<String> names = new ArrayList<>();
        Arrays.stream(types).forEach(type -> names.add(type.getName()));
        return "(" + String.join(", ", names) + ")";
    }

    private static void hasNoNameOfTheFace(Class<?> inner, Class<?> face) {
        for (Method method : face.getDeclaredMethods()) {
            if (Modifier.isPublic(method.getModifiers())) {
                for (Method own : inner.getDeclaredMethods()) {
                    Check.isFalse(inner.getSimpleName() + " has a method " + own.getName(),
                            () -> own.getName().equals(method.getName()));
                }
            }
        }
    }
}
