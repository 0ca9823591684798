import java.lang.reflect.Constructor;
import java.lang.reflect.Field;
import java.lang.reflect.Member;
import java.lang.reflect.Method;
import java.lang.reflect.Modifier;
import java.util.Set;
import java.util.TreeSet;

/** The class has the document's face and no other member that can be seen. */
public final class FaceTest {
    private static final Set<String> FACE = Set.of(
        "public static final int BigLedger.NONE",
        "public BigLedger(int,int,int)",
        "public boolean BigLedger.format()",
        "public boolean BigLedger.amountLimb(int)",
        "public boolean BigLedger.clearAmount()",
        "public int BigLedger.deposit(int)",
        "public int BigLedger.withdraw(int)",
        "public int BigLedger.transfer(int,int)",
        "public int BigLedger.part(int,int,int)",
        "public int BigLedger.commit()",
        "public boolean BigLedger.abort()",
        "public int BigLedger.balanceSize(int)",
        "public int BigLedger.balanceLimb(int,int)",
        "public int BigLedger.totalLimb(int)",
        "public int BigLedger.amount(int)",
        "public int BigLedger.compare(int,int)",
        "public void BigLedger.stopAfter(int)",
        "public boolean BigLedger.recover()",
        "public int BigLedger.write(int)",
        "public int BigLedger.octet(int) throws java.util.NoSuchElementException",
        "public int BigLedger.count(int)");

    public static void main(String[] args) {
        int classModifiers = BigLedger.class.getModifiers();
        Check.due("public and final", Modifier.isPublic(classModifiers) && Modifier.isFinal(classModifiers), true);
        Set<String> seen = new TreeSet<>();
        for (Field field : BigLedger.class.getDeclaredFields()) {
            addIfSeen(seen, field, field.toGenericString());
            Check.due("static " + field + " is final", !isMutableStatic(field), true);
        }
        for (Constructor<?> constructor : BigLedger.class.getDeclaredConstructors()) {
            addIfSeen(seen, constructor, constructor.toGenericString());
        }
        Set<String> hidden = new TreeSet<>();
        Set<String> open = new TreeSet<>();
        for (Method method : BigLedger.class.getDeclaredMethods()) {
            addIfSeen(seen, method, method.toGenericString());
            (Modifier.isPrivate(method.getModifiers()) ? hidden : open).add(method.getName());
        }
        Check.due("the face", seen, new TreeSet<>(FACE));
        hidden.retainAll(open);
        Check.due("private methods that bear a public one's name", hidden, Set.of());
        for (Class<?> inside : BigLedger.class.getDeclaredClasses()) {
            Check.due(inside + " is static", Modifier.isStatic(inside.getModifiers()), true);
            Check.due(inside + " is not public", Modifier.isPublic(inside.getModifiers()), false);
        }
        Check.finish();
    }

    private static boolean isMutableStatic(Field field) {
        return Modifier.isStatic(field.getModifiers()) && !Modifier.isFinal(field.getModifiers());
    }

    private static void addIfSeen(Set<String> seen, Member member, String text) {
        if (!Modifier.isPrivate(member.getModifiers()) && !member.isSynthetic()) {
            seen.add(text);
        }
    }
}
