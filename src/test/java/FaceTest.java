import java.lang.reflect.Constructor;
import java.lang.reflect.Field;
import java.lang.reflect.Method;
import java.lang.reflect.Modifier;
import java.util.Set;
import java.util.TreeSet;

/** The public face of the document, and rules 1 and 5 of LANGUAGE.md as far as reflection sees them. */
public final class FaceTest {
    private static final Set<String> FACE = Set.of(
        "void init()", "boolean setKeyByte(int,int)", "boolean expand()", "boolean macStart()",
        "boolean macUpdate(int)", "boolean macFill(int,int,int)", "boolean macFinish()", "int tagByte(int)",
        "boolean macCheck(int,int)", "boolean macVerdict()", "boolean setBlockByte(int,int)",
        "boolean encryptBlock()", "boolean decryptBlock()", "boolean chain(boolean)", "boolean unchain()",
        "int blockByte(int)", "int half(int,int)");

    private static final Due due = new Due();

    public static void main(String[] args) {
        due.each(
            FaceTest::theClass,
            FaceTest::theMethods,
            FaceTest::theFields,
            FaceTest::theClassesInside);
        due.close();
    }

    private static void theClass() {
        int modifiers = BlockCode.class.getModifiers();
        due.yes("public final class", Modifier.isPublic(modifiers) && Modifier.isFinal(modifiers));
        Constructor<?>[] constructors = BlockCode.class.getDeclaredConstructors();
        due.same("number of constructors", constructors.length, 1);
        due.same("constructor's parameters", constructors[0].getParameterCount(), 0);
        due.yes("public constructor", Modifier.isPublic(constructors[0].getModifiers()));
    }

    private static void theMethods() {
        Set<String> seen = new TreeSet<>();
        for (Method m : BlockCode.class.getDeclaredMethods()) {
            if (!Modifier.isPrivate(m.getModifiers())) {
                String whole = m.toString();
                seen.add(whole.replace("public ", "").replace("BlockCode.", ""));
            }
        }
        due.same("methods that are not private", seen.toString(), new TreeSet<>(FACE).toString());
    }

    private static void theFields() {
        for (Field f : BlockCode.class.getDeclaredFields()) {
            due.yes("private field " + f.getName(), Modifier.isPrivate(f.getModifiers()));
        }
    }

    private static void theClassesInside() {
        Set<String> names = new TreeSet<>();
        for (String method : FACE) {
            names.add(method.replaceAll(".* |\\(.*", ""));
        }
        for (Class<?> inside : BlockCode.class.getDeclaredClasses()) {
            due.yes("static class inside " + inside.getName(), Modifier.isStatic(inside.getModifiers()));
            for (Method m : inside.getDeclaredMethods()) {
                due.no("name of the face taken inside: " + m.getName(), names.contains(m.getName()));
            }
            for (Field f : inside.getDeclaredFields()) {
                due.no("static state inside: " + f.getName(),
                    Modifier.isStatic(f.getModifiers()) && !Modifier.isFinal(f.getModifiers()));
            }
        }
    }
}
