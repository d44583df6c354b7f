import java.lang.reflect.Constructor;
import java.lang.reflect.Field;
import java.lang.reflect.Method;
import java.lang.reflect.Modifier;
import java.util.Set;
import java.util.TreeSet;

/** The members that are not private are those of the document's face, no more and no fewer. */
public final class FaceTest {
    private static final Set<String> FACE = Set.of(
        "public Ferrytax()",
        "public static final int Ferrytax.NONE",
        "public static final int Ferrytax.OPEN",
        "public static final int Ferrytax.STAMPED",
        "public static final int Ferrytax.PAID",
        "public static final int Ferrytax.VOID",
        "public static final int Ferrytax.BACK",
        "public int Ferrytax.rate(int,int) I A",
        "public int Ferrytax.buy(int,int,int,int) I A S",
        "public int Ferrytax.giveBack(int) I S",
        "public int Ferrytax.ferry(int,int) A S",
        "public int Ferrytax.seat(int,int) I S",
        "public int Ferrytax.leaveSeat(int,int) I S",
        "public int Ferrytax.aboard(int,int) I S",
        "public int Ferrytax.stamp(int,int) I S",
        "public int Ferrytax.check(int,boolean) I S",
        "public int Ferrytax.comeBack(int) I S",
        "public int Ferrytax.pass(int) A S",
        "public int Ferrytax.ofReceipt(int,int) I A",
        "public char Ferrytax.code(int,int) I",
        "public int Ferrytax.ofTraveller(int,int) I A",
        "public int Ferrytax.refundsAnew(int) I",
        "public int Ferrytax.debt(int) I");

    public static void main(String[] args) {
        Set<String> found = new TreeSet<>();
        Set<String> publicNames = new TreeSet<>();
        Set<String> privateNames = new TreeSet<>();
        for (Constructor<?> made : Ferrytax.class.getDeclaredConstructors()) {
            found.add(made.toGenericString());
        }
        for (Field field : Ferrytax.class.getDeclaredFields()) {
            if (!Modifier.isPrivate(field.getModifiers())) {
                found.add(field.toGenericString());
            }
        }
        for (Method method : Ferrytax.class.getDeclaredMethods()) {
            boolean hidden = Modifier.isPrivate(method.getModifiers());
            (hidden ? privateNames : publicNames).add(method.getName());
            if (!hidden) {
                found.add(shortened(method));
            }
        }
        Due due = new Due();
        if (!found.equals(FACE)) {
            due.report("the face is " + found);
        }
        privateNames.retainAll(publicNames);
        if (!privateNames.isEmpty()) {
            due.report("private methods bear names of public ones: " + privateNames);
        }
        if (Ferrytax.class.getModifiers() != (Modifier.PUBLIC | Modifier.FINAL)) {
            due.report("the class is not public and final alone");
        }
        due.end();
    }

    private static String shortened(Method method) {
        return method.toGenericString()
            .replace(" throws ", " ")
            .replace("java.lang.IndexOutOfBoundsException", "I")
            .replace("java.lang.IllegalArgumentException", "A")
            .replace("java.lang.IllegalStateException", "S")
            .replace(") I,", ") I ").replace("A,S", "A S");
    }
}
