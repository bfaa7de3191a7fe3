import java.lang.reflect.Constructor;
import java.lang.reflect.Field;
import java.lang.reflect.Member;
import java.lang.reflect.Method;
import java.lang.reflect.Modifier;
import java.util.Arrays;
import java.util.TreeSet;

/** The class has the document's face, and nothing else of it can be seen. */
public final class FaceTest {
    private static final String[] FACE = {
        "public static final int CacheYard.NONE",
        "public CacheYard()",
        "public void CacheYard.make(int,int,int,int,int) throws java.lang.IllegalArgumentException",
        "public int CacheYard.access(int,boolean)"
            + " throws java.lang.IllegalArgumentException,java.lang.UnsupportedOperationException",
        "public int CacheYard.flush(int) throws java.util.NoSuchElementException",
        "public int CacheYard.place(int,int,int,int) throws java.util.NoSuchElementException,"
            + "java.lang.IndexOutOfBoundsException,java.lang.IllegalArgumentException",
        "public int CacheYard.about(int,int)"
            + " throws java.util.NoSuchElementException,java.lang.IllegalArgumentException",
        "public int CacheYard.accesses()",
        "public int CacheYard.curve(int,int) throws java.lang.IllegalArgumentException",
        "public int CacheYard.best(int,int) throws java.lang.IllegalArgumentException",
    };

    public static void main(String[] args) {
        Checks checks = new Checks();
        TreeSet<String> seen = new TreeSet<>();
        for (Field field : CacheYard.class.getDeclaredFields()) {
            addIfSeen(seen, field, field.toString());
        }
        for (Constructor<?> constructor : CacheYard.class.getDeclaredConstructors()) {
            addIfSeen(seen, constructor, constructor.toString());
        }
        for (Method method : CacheYard.class.getDeclaredMethods()) {
            addIfSeen(seen, method, method.toString());
        }
        checks.dueSame("the face", seen.toString(), new TreeSet<>(Arrays.asList(FACE)).toString());
        checks.dueSame("the class", Modifier.toString(CacheYard.class.getModifiers()), "public final");
        for (Class<?> inside : CacheYard.class.getDeclaredClasses()) {
            int modifiers = inside.getModifiers();
            boolean isHidden = !Modifier.isPublic(modifiers) && !Modifier.isProtected(modifiers);
            checks.due(inside + " is hidden and static", isHidden && Modifier.isStatic(modifiers) ? 1 : 0, 1);
        }
        checks.end("FaceTest");
    }

    private static void addIfSeen(TreeSet<String> seen, Member member, String text) {
        if (!Modifier.isPrivate(member.getModifiers())) {
            seen.add(text);
        }
    }
}
