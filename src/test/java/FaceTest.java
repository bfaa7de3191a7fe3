import java.lang.reflect.Constructor;
import java.lang.reflect.Field;
import java.lang.reflect.Member;
import java.lang.reflect.Method;
import java.lang.reflect.Modifier;
import java.util.Arrays;
import java.util.TreeSet;

/** The class has the document's face, and nothing else of it can be seen. */
public final class FaceTest {
    private static final String[] FACE = {
        "public static final int CacheYard.NONE",
        "public CacheYard()",
        "public void CacheYard.make(int,int,int,int,int) throws java.lang.IllegalArgumentException",
        "public int CacheYard.access(int,boolean)"
            + " throws java.lang.IllegalArgumentException,java.lang.UnsupportedOperationException",
        "public int CacheYard.flush(int) throws java.util.NoSuchElementException",
        "public int CacheYard.place(int,int,int,int) throws java.util.NoSuchElementException,"
            + "java.lang.IndexOutOfBoundsException,java.lang.IllegalArgumentException",
        "public int CacheYard.about(int,int)"
            + " throws java.util.NoSuchElementException,java.lang.IllegalArgumentException",
        "public int CacheYard.accesses()",
        "public int CacheYard.curve(int,int) throws java.lang.IllegalArgumentException",
        "public int CacheYard.best(int,int) throws java.lang.IllegalArgumentException",
    };

    public static void main(String[] args) {
        Checks checks = new Checks();
        TreeSet<String> seen = new TreeSet<>();
        for (Field field : CacheYard.class.getDeclaredFields()) {
            addIfSeen(seen, field, field.toString());
        }
        for (Constructor<?> constructor : CacheYard.class.getDeclaredConstructors()) {
            addIfSeen(seen, constructor, constructor.toString());
        }
        for (Method method : CacheYard.class.getDeclaredMethods()) {
            addIfSeen(seen, method, method.toString());
        }
        checks.dueSame("the face", seen.toString(), new TreeSet<>(Arrays.asList(FACE)).toString());
        checks.dueSame("the class", Modifier.toString(CacheYard.class.getModifiers()), "public final");
        for (Class<?> inside : CacheYard.class.getDeclaredClasses()) {
            int modifiers = inside.getModifiers();
            boolean isHidden = !Modifier.isPublic(modifiers) && !Modifier.isProtected(modifiers);
            checks.due(inside + " is hidden and static", isHidden && Modifier.isStatic(modifiers) ? 1 : 0, 1);
            dueKeptRules(checks, inside);
        }
        dueKeptRules(checks, CacheYard.class);
        checks.end("FaceTest");
    }

    /** Of LANGUAGE.md what members show: rule 1 (names), 5 (static fields) and 11 (parameters, fields). */
    private static void dueKeptRules(Checks checks, Class<?> type) {
        int fields = 0;
        for (Field field : type.getDeclaredFields()) {
            if (Modifier.isStatic(field.getModifiers())) {
                checks.due(field + " is final", Modifier.isFinal(field.getModifiers()) ? 1 : 0, 1);
            } else {
                fields++;
            }
        }
        checks.due(type + " has at most twenty fields", fields <= 20 ? 1 : 0, 1);
        for (Method method : type.getDeclaredMethods()) {
            boolean isOfTheFace = type == CacheYard.class && Modifier.isPublic(method.getModifiers());
            checks.due(method + " has a name of its own", isOfTheFace || !isNameOfTheFace(method) ? 1 : 0, 1);
            checks.due(method + " has at most seven parameters", method.getParameterCount() <= 7 ? 1 : 0, 1);
        }
    }

    private static boolean isNameOfTheFace(Method method) {
        for (String shown : FACE) {
            if (shown.contains("." + method.getName() + "(")) {
                return true;
            }
        }
        return false;
    }

    private static void addIfSeen(TreeSet<String> seen, Member member, String text) {
        if (!Modifier.isPrivate(member.getModifiers())) {
            seen.add(text);
        }
    }
}
