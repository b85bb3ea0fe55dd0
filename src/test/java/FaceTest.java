import java.lang.reflect.Constructor;
import java.lang.reflect.Field;
import java.lang.reflect.Method;
import java.lang.reflect.Modifier;
import java.util.Arrays;
import java.util.Set;
import java.util.TreeSet;

/** The class shows the document's face, and nothing else is to be seen from outside. */
public final class FaceTest {
    private static final String[] FACE = {
        "public static final int RiskHouse.NONE",
        "public RiskHouse(int)",
        "public int RiskHouse.rule(int,boolean) throws java.lang.IllegalArgumentException,java.lang.IllegalStateException",
        "public int RiskHouse.operation(int,int,int) throws java.lang.IllegalArgumentException,java.lang.IllegalStateException",
        "public boolean RiskHouse.field(int,int)",
        "public boolean RiskHouse.tape(int)",
        "public boolean RiskHouse.share(int,int)",
        "public boolean RiskHouse.cap(int,int)",
        "public int RiskHouse.ask(int) throws java.lang.IllegalArgumentException,java.lang.IllegalStateException",
        "public int RiskHouse.decide(int) throws java.lang.IllegalArgumentException",
        "public int RiskHouse.of(int,int) throws java.lang.IndexOutOfBoundsException",
        "public int RiskHouse.failed(int,int) throws java.lang.IndexOutOfBoundsException",
        "public int RiskHouse.edition(int,int) throws java.lang.IndexOutOfBoundsException",
        "public int RiskHouse.look(int,int) throws java.lang.IndexOutOfBoundsException",
        "public int RiskHouse.count(int)",
    };

    public static void main(String[] args) {
        Set<String> seen = new TreeSet<>();
        for (Field f : RiskHouse.class.getDeclaredFields()) {
            addUnlessPrivate(seen, f.getModifiers(), f.toString());
        }
        for (Constructor<?> c : RiskHouse.class.getDeclaredConstructors()) {
            addUnlessPrivate(seen, c.getModifiers(), c.toString());
        }
        for (Method m : RiskHouse.class.getDeclaredMethods()) {
            addUnlessPrivate(seen, m.getModifiers(), m.toString());
        }
        Set<String> due = new TreeSet<>(Arrays.asList(FACE));
        boolean rightClass = RiskHouse.class.getModifiers() == (Modifier.PUBLIC | Modifier.FINAL);
        if (!seen.equals(due) || !rightClass) {
            System.out.println("the face is " + seen + ", due is " + due);
            System.exit(1);
        }
        System.out.println("the face is as due");
    }

    private static void addUnlessPrivate(Set<String> seen, int modifiers, String member) {
        if (!Modifier.isPrivate(modifiers)) {
            seen.add(member);
        }
    }
}
