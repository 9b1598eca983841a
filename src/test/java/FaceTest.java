import java.lang.reflect.Constructor;
import java.lang.reflect.Field;
import java.lang.reflect.Method;
import java.lang.reflect.Modifier;
import java.util.Arrays;
import java.util.TreeSet;

/** The face is the document's and nothing more (LANGUAGE.md, rules 1 and 5). */
public final class FaceTest {
    public static void main(String[] args) {
        TreeSet<String> want = new TreeSet<>(Arrays.asList(
            "public ProgramGate()",
            "public static final int ProgramGate.NONE",
            "public int ProgramGate.add(int,int,int,int,int)",
            "public int ProgramGate.clear()",
            "public int ProgramGate.size()",
            "public boolean ProgramGate.packet(long,long,int)",
            "public int ProgramGate.walk()",
            "public int ProgramGate.steps()",
            "public int ProgramGate.run(int) throws java.lang.IllegalStateException,"
                + "java.lang.ArithmeticException,java.lang.IndexOutOfBoundsException",
            "public int ProgramGate.ran()",
            "public long ProgramGate.known(int,int)"));
        TreeSet<String> got = new TreeSet<>();
        for (Constructor<?> c : ProgramGate.class.getDeclaredConstructors()) {
            got.add(c.toGenericString());
        }
        for (Field f : ProgramGate.class.getDeclaredFields()) {
            if (!Modifier.isPrivate(f.getModifiers())) {
                got.add(f.toGenericString());
            }
            boolean changingStatic = Modifier.isStatic(f.getModifiers()) && !Modifier.isFinal(f.getModifiers());
            Due.due("a static field that changes: " + f, changingStatic, false);
        }
        for (Method m : ProgramGate.class.getDeclaredMethods()) {
            if (!Modifier.isPrivate(m.getModifiers())) {
                got.add(m.toGenericString());
            }
        }
        Due.due("the face", got.toString(), want.toString());
        Due.due("final", Modifier.isFinal(ProgramGate.class.getModifiers()), true);
        Due.due("NONE", ProgramGate.NONE, -1);
        Due.finish();
    }
}
