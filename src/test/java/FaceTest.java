import java.lang.reflect.Constructor;
import java.lang.reflect.Field;
import java.lang.reflect.Member;
import java.lang.reflect.Method;
import java.lang.reflect.Modifier;
import java.util.Set;
import java.util.TreeSet;

/** "The public face": every member that the document lists, and no other that is not private. */
public final class FaceTest {
    /** The document's lines, as reflection writes them. */
    private static final Set<String> FACE = new TreeSet<>(Set.of(
        "public BlockCode()",
        "public void BlockCode.init()",
        "public boolean BlockCode.setKeyByte(int,int)",
        "public boolean BlockCode.expand()",
        "public boolean BlockCode.macStart()",
        "public boolean BlockCode.macUpdate(int)",
        "public boolean BlockCode.macFill(int,int,int)",
        "public boolean BlockCode.macFinish()",
        "public int BlockCode.tagByte(int)",
        "public boolean BlockCode.macCheck(int,int)",
        "public boolean BlockCode.macVerdict()",
        "public boolean BlockCode.setBlockByte(int,int)",
        "public boolean BlockCode.encryptBlock()",
        "public boolean BlockCode.decryptBlock()",
        "public boolean BlockCode.chain(boolean)",
        "public boolean BlockCode.unchain()",
        "public int BlockCode.blockByte(int)",
        "public int BlockCode.half(int,int)"));

    private static final Due due = new Due();

    public static void main(String[] args) {
        due.each(
            FaceTest::theClass,
            FaceTest::everyMemberAndNoOther,
            FaceTest::noPrivateMethodHasANameOfTheFace,
            FaceTest::theClassesInside);
        due.close();
    }

    private static void theClass() {
        due.face("a public final class without a package");
        due.same("the class", Modifier.toString(BlockCode.class.getModifiers()), "public final");
        due.same("its name", BlockCode.class.getName(), "BlockCode");
        due.same("what it extends", BlockCode.class.getSuperclass().getName(), "java.lang.Object");
        due.same("interfaces that it implements", BlockCode.class.getInterfaces().length, 0);
    }

    /** Constructors, methods and fields; what a class inherits from Object is Java's, not the face's. */
    private static void everyMemberAndNoOther() {
        due.face("every member that it lists, and no other");
        Set<String> seen = new TreeSet<>();
        for (Constructor<?> c : BlockCode.class.getDeclaredConstructors()) {
            addUnlessPrivate(seen, c);
        }
        for (Method m : BlockCode.class.getDeclaredMethods()) {
            addUnlessPrivate(seen, m);
        }
        for (Field f : BlockCode.class.getDeclaredFields()) {
            addUnlessPrivate(seen, f);
        }
        for (String listed : FACE) {
            due.yes(listed + " is there", seen.contains(listed));
        }
        for (String there : seen) {
            due.yes(there + " is listed", FACE.contains(there));
        }
    }

    private static void addUnlessPrivate(Set<String> seen, Member member) {
        if (!Modifier.isPrivate(member.getModifiers())) {
            seen.add(member.toString());
        }
    }

    /** So LANGUAGE.md's rule 1 has it. */
    private static void noPrivateMethodHasANameOfTheFace() {
        due.face("no private method bears a name of it");
        for (Method m : BlockCode.class.getDeclaredMethods()) {
            boolean isPrivate = Modifier.isPrivate(m.getModifiers());
            due.no(m + " is private with a name of the face", isPrivate && isNameOfTheFace(m.getName()));
        }
    }

    private static boolean isNameOfTheFace(String name) {
        return FACE.stream().anyMatch(listed -> listed.contains("." + name + "("));
    }

    private static void theClassesInside() {
        due.face("the classes inside are static, and no part of it");
        for (Class<?> inside : BlockCode.class.getDeclaredClasses()) {
            int modifiers = inside.getModifiers();
            due.yes(inside + " is static", Modifier.isStatic(modifiers));
            due.no(inside + " is public or protected", Modifier.isPublic(modifiers) || Modifier.isProtected(modifiers));
            for (Method m : inside.getDeclaredMethods()) {
                due.no(m + " has a name of the face", isNameOfTheFace(m.getName()));
            }
        }
    }
}
