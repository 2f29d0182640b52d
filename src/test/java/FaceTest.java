import java.lang.reflect.Constructor;
import java.lang.reflect.Field;
import java.lang.reflect.Method;
import java.lang.reflect.Modifier;
import java.util.TreeSet;

/** The public face as the document has it, and no more. */
public final class FaceTest {
    public static void main(String[] args) {
        Class<?> face = ClusterImage.class;
        Check.due("modifiers", face.getModifiers(), Modifier.PUBLIC | Modifier.FINAL);
        TreeSet<String> seen = new TreeSet<>();
        for (Method m : face.getDeclaredMethods()) {
            if (!Modifier.isPrivate(m.getModifiers())) {
                seen.add(m.toString().replace("ClusterImage.", ""));
            }
        }
        for (Field f : face.getDeclaredFields()) {
            if (!Modifier.isPrivate(f.getModifiers())) {
                seen.add(f.toString().replace("ClusterImage.", ""));
            }
        }
        for (Constructor<?> c : face.getDeclaredConstructors()) {
            seen.add(c.toString());
        }
        Check.dueText("the face", String.join("\n", seen), String.join("\n", due()));
        Check.due("REFUSED", ClusterImage.REFUSED, -1);
        Check.due("FULL", ClusterImage.FULL, -2);
        Check.due("IDLE", ClusterImage.IDLE, -3);
        Check.due("NONE", ClusterImage.NONE, 10000000000L);
        noPrivateMethodBearsAPublicName(face);
        for (Class<?> inside : face.getDeclaredClasses()) {
            Check.due(inside.getName() + " is static", inside.getModifiers() & Modifier.STATIC, Modifier.STATIC);
            noPrivateMethodBearsAPublicName(inside);
        }
        Check.end();
    }

    private static TreeSet<String> due() {
        TreeSet<String> due = new TreeSet<>();
        due.add("public static final int REFUSED");
        due.add("public static final int FULL");
        due.add("public static final int IDLE");
        due.add("public static final long NONE");
        due.add("public ClusterImage()");
        due.add("public int instr(int,int,int,int)");
        due.add("public int spawn(int,int)");
        due.add("public int step(int)");
        due.add("public int serve(int)");
        due.add("public int migrate(int,int)");
        due.add("public int find(int,int)");
        due.add("public long reg(int,int)");
        due.add("public long info(int,int)");
        due.add("public int line(int,int)");
        due.add("public long word(int)");
        due.add("public long copy(int,int)");
        due.add("public int right(int,int)");
        due.add("public int owner(int)");
        due.add("public int count(int)");
        return due;
    }

    private static void noPrivateMethodBearsAPublicName(Class<?> where) {
        for (Method m : where.getDeclaredMethods()) {
            boolean hidden = where != ClusterImage.class || Modifier.isPrivate(m.getModifiers());
            for (Method open : ClusterImage.class.getMethods()) {
                boolean own = open.getDeclaringClass() == ClusterImage.class;
                if (hidden && own && open.getName().equals(m.getName())) {
                    Check.due("hidden methods named " + m.getName(), 1, 0);
                }
            }
        }
    }
}
