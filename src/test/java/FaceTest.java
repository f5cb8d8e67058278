import java.lang.reflect.Constructor;
import java.lang.reflect.Field;
import java.lang.reflect.Method;
import java.lang.reflect.Modifier;
import java.util.Set;
import java.util.TreeSet;

/** The class has the document's face and nothing else that can be seen from outside. */
public final class FaceTest {
    public static void main(String[] args) {
        Due due = new Due("FaceTest");
        Class<?> c = StepRewriter.class;
        due.is("public final", c.getModifiers() & (Modifier.PUBLIC | Modifier.FINAL), Modifier.PUBLIC | Modifier.FINAL);

        Set<String> seen = new TreeSet<>();
        for (Field f : c.getDeclaredFields()) {
            if (!Modifier.isPrivate(f.getModifiers())) {
                seen.add(Modifier.toString(f.getModifiers()) + " " + f.getType() + " " + f.getName());
            }
        }
        for (Constructor<?> k : c.getDeclaredConstructors()) {
            seen.add(k.toString());
        }
        Set<String> names = new TreeSet<>();
        for (Method m : c.getDeclaredMethods()) {
            if (!Modifier.isPrivate(m.getModifiers())) {
                seen.add(m.toString().replace("StepRewriter.", ""));
                names.add(m.getName());
            }
        }
        for (Method m : c.getDeclaredMethods()) {
            if (Modifier.isPrivate(m.getModifiers())) {
                due.is("private " + m.getName() + " is named as a public one", names.contains(m.getName()) ? 1 : 0, 0);
            }
        }
        String[] face = {"public static final int NONE", "public static final int STATE",
            "public static final int BAD", "public static final int FULL", "public StepRewriter()",
            "public int feed(long,int)", "public int load()", "public int price(int,int)",
            "public int rewrite()", "public int told(int,boolean,int)", "public int byteAt(int,boolean,int)",
            "public int handler(int,boolean,int,int)", "public int block(int,int,int)",
            "public int run(int,int,int,int)", "public int answer()", "public int counted()",
            "public int steps()", "public int element(int,int)", "public int unwrite()", "public void clear()"};
        for (String member : face) {
            due.is(member + " is there", seen.remove(member) ? 1 : 0, 1);
        }
        for (String member : seen) {
            due.is(member + " is in the document", 0, 1);
        }
        for (Class<?> inside : c.getDeclaredClasses()) {
            due.is(inside.getName() + " is static", Modifier.isStatic(inside.getModifiers()) ? 1 : 0, 1);
        }
        due.is("NONE", StepRewriter.NONE, -1);
        due.is("STATE", StepRewriter.STATE, -2);
        due.is("BAD", StepRewriter.BAD, -3);
        due.is("FULL", StepRewriter.FULL, -4);
        due.end();
    }
}
