import java.lang.reflect.Constructor;
import java.lang.reflect.Field;
import java.lang.reflect.Method;
import java.lang.reflect.Modifier;
import java.util.Set;
import java.util.TreeSet;

/** The public face: what the document lists, and nothing else that is not private. */
public final class FaceTest {
    public static void main(String[] args) {
        Set<String> want = new TreeSet<>(Set.of(
            "int FAILS", "RingPacker()", "boolean put(int)", "void clear()", "int length()", "int at(int)",
            "int pack()", "int unpack()", "int size()", "int byteAt(int)", "boolean poke(int,int)",
            "boolean append(int)", "boolean trim(int)", "int coded()", "int copies()", "int words()",
            "int symbols()"));
        Set<String> got = new TreeSet<>();
        for (Field f : RingPacker.class.getDeclaredFields()) {
            if (!Modifier.isPrivate(f.getModifiers())) {
                got.add(f.getType() + " " + f.getName());
            }
        }
        for (Constructor<?> c : RingPacker.class.getDeclaredConstructors()) {
            got.add("RingPacker(" + "?".repeat(c.getParameterCount()) + ")");
        }
        for (Method m : RingPacker.class.getDeclaredMethods()) {
            if (!Modifier.isPrivate(m.getModifiers()) && !m.isSynthetic()) {
                got.add(m.getReturnType() + " " + m.getName() + parameters(m));
            }
        }
        Check.due("the face is the document's: " + got, got.equals(want), true);
        Check.due("the class is public and final",
            RingPacker.class.getModifiers(), Modifier.PUBLIC | Modifier.FINAL);
        Check.due("FAILS", RingPacker.FAILS, -1);
        namesOfTheFaceStandOnce(RingPacker.class, namesOfTheFace());
        classesInside();
        Check.finish();
    }

    private static Set<String> namesOfTheFace() {
        Set<String> names = new TreeSet<>();
        for (Method m : RingPacker.class.getDeclaredMethods()) {
            if (Modifier.isPublic(m.getModifiers())) {
                names.add(m.getName());
            }
        }
        return names;
    }

    private static void namesOfTheFaceStandOnce(Class<?> type, Set<String> names) {
        for (Method m : type.getDeclaredMethods()) {
            boolean alike = names.contains(m.getName());
            boolean isOfTheFace = type == RingPacker.class && Modifier.isPublic(m.getModifiers());
            Check.due(type.getName() + "." + m.getName() + " bears a name of the face", alike, isOfTheFace);
        }
    }

    private static void classesInside() {
        Set<String> names = namesOfTheFace();
        for (Class<?> inside : RingPacker.class.getDeclaredClasses()) {
            int kind = inside.getModifiers();
            Check.due(inside.getName() + " is static", Modifier.isStatic(kind), true);
            Check.due(inside.getName() + " is seen from outside",
                Modifier.isPublic(kind) || Modifier.isProtected(kind), false);
            namesOfTheFaceStandOnce(inside, names);
        }
        int classes = 1 + RingPacker.class.getDeclaredClasses().length;
        Check.due("at most twelve classes: " + classes, classes <= 12, true);
    }

    private static String parameters(Method m) {
        StringBuilder row = new StringBuilder("(");
        for (Class<?> type : m.getParameterTypes()) {
            row.append(row.length() > 1 ? "," : "").append(type);
        }
        return row.append(")").toString();
    }
}
