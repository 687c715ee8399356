import java.lang.reflect.Constructor;
import java.lang.reflect.Field;
import java.lang.reflect.Member;
import java.lang.reflect.Method;
import java.lang.reflect.Modifier;
import java.util.Set;
import java.util.TreeSet;

/** The public face: what the document names, and no other member that is not private. */
public final class FaceTest {
    private static final Set<String> FACE = Set.of(
            "public static final int TrusteeDesk.NONE",
            "public TrusteeDesk()",
            "public int TrusteeDesk.claim(int,long) throws java.lang.IllegalArgumentException,"
                    + "java.lang.UnsupportedOperationException,java.lang.IllegalStateException",
            "public long TrusteeDesk.owes(int,long) throws java.lang.IndexOutOfBoundsException,"
                    + "java.lang.IllegalArgumentException,java.lang.IllegalStateException",
            "public int TrusteeDesk.asset() throws java.lang.UnsupportedOperationException,"
                    + "java.lang.IllegalStateException",
            "public int TrusteeDesk.secure(int,int,long) throws java.lang.IndexOutOfBoundsException,"
                    + "java.lang.IllegalArgumentException,java.lang.UnsupportedOperationException,"
                    + "java.lang.IllegalStateException",
            "public long TrusteeDesk.realise(int,long) throws java.lang.IndexOutOfBoundsException,"
                    + "java.lang.IllegalArgumentException,java.lang.IllegalStateException",
            "public void TrusteeDesk.contest(int) throws java.lang.IndexOutOfBoundsException,"
                    + "java.lang.IllegalStateException",
            "public long TrusteeDesk.settle(int,long) throws java.lang.IndexOutOfBoundsException,"
                    + "java.lang.IllegalArgumentException,java.lang.IllegalStateException",
            "public long TrusteeDesk.cost(long) throws java.lang.IllegalArgumentException,"
                    + "java.lang.IllegalStateException",
            "public long TrusteeDesk.dividend(int,int) throws java.lang.IllegalArgumentException,"
                    + "java.lang.IllegalStateException,java.lang.UnsupportedOperationException",
            "public int TrusteeDesk.greatest(int) throws java.lang.IllegalArgumentException",
            "public long TrusteeDesk.catchUp() throws java.lang.IllegalStateException",
            "public long TrusteeDesk.end() throws java.lang.IllegalStateException",
            "public long TrusteeDesk.told(int,int) throws java.lang.IndexOutOfBoundsException,"
                    + "java.lang.IllegalArgumentException",
            "public int TrusteeDesk.percentage(int) throws java.lang.IllegalArgumentException",
            "public long TrusteeDesk.sum(int)",
            "public int TrusteeDesk.entries()",
            "public long TrusteeDesk.entry(int,int) throws java.lang.IndexOutOfBoundsException,"
                    + "java.lang.IllegalArgumentException");

    public static void main(String[] args) {
        Set<String> found = new TreeSet<>();
        for (Constructor<?> constructor : TrusteeDesk.class.getDeclaredConstructors()) {
            addIfVisible(found, constructor, constructor.toString());
        }
        for (Method method : TrusteeDesk.class.getDeclaredMethods()) {
            addIfVisible(found, method, method.toString());
        }
        for (Field field : TrusteeDesk.class.getDeclaredFields()) {
            addIfVisible(found, field, field.toString());
            Check.due("static fields are final: " + field, 0, isLooseStatic(field) ? 1 : 0);
        }
        for (String member : found) {
            Check.due("not of the document's face: " + member, 1, FACE.contains(member) ? 1 : 0);
        }
        for (String member : FACE) {
            Check.due("missing in the face: " + member, 1, found.contains(member) ? 1 : 0);
        }
        Check.due("public and final", Modifier.PUBLIC | Modifier.FINAL, TrusteeDesk.class.getModifiers());
        Check.finish();
    }

    private static void addIfVisible(Set<String> found, Member member, String text) {
        if (!Modifier.isPrivate(member.getModifiers()) && !member.isSynthetic()) {
            found.add(text);
        }
    }

    private static boolean isLooseStatic(Field field) {
        return Modifier.isStatic(field.getModifiers()) && !Modifier.isFinal(field.getModifiers());
    }
}
