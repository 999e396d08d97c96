import java.lang.reflect.Constructor;
import java.lang.reflect.Field;
import java.lang.reflect.Method;
import java.lang.reflect.Modifier;
import java.util.Arrays;
import java.util.List;
import java.util.Set;
import java.util.TreeSet;

/** The public face, member by member (LANGUAGE.md, rules 1, 2, 5 and 11), and promise 1. */
public final class FaceTest {
    private static final String[] FACE = {
        "int feed(int, int, int, int, int)", "int end(int)", "int octet(int)", "int make(int, int, int, long)",
        "int slot(int, long)", "long edge(int, long, int)", "long record(int, long, long, long)", "long at(int, long)",
        "long below(int, long)", "long total(int)", "long rank(int, int)", "long about(int, int)", "long add(int, int)",
        "long takeOff(int, int)", "long halve(int)", "int shelve(int)", "int kind(int, int)", "int room(int)",
        "long peek(int, int, int, int, int)", "int poke(int, int, int, int, int, int)",
        "int example(int, long, boolean, int)", "int examples(int)", "int pack(int)", "int unpack(int)", "int begin(int)",
        "long write(int, long, long, long)", "int stop(int)", "int swap()", "long read()", "int undo()",
        "int same(int, int)", "int count(int)", "long setting(int, int)"};

    public static void main(String[] args) {
        Class<?> c = TailRecorder.class;
        Due.due("the class is public and final", c.getModifiers() & (Modifier.PUBLIC | Modifier.FINAL), Modifier.PUBLIC | Modifier.FINAL);
        Set<String> names = new TreeSet<>();
        Set<String> seen = new TreeSet<>();
        for (Method m : c.getDeclaredMethods()) {
            if (!Modifier.isPrivate(m.getModifiers())) {
                seen.add(m.getReturnType() + " " + m.getName() + Arrays.toString(m.getParameterTypes()).replace('[', '(').replace(']', ')'));
                names.add(m.getName());
            }
        }
        if (!seen.equals(new TreeSet<>(List.of(FACE)))) Due.due("the face " + seen, 0, 1);
        for (Constructor<?> k : c.getDeclaredConstructors()) {
            Due.due("constructor " + k, k.getParameterCount() + (Modifier.isPublic(k.getModifiers()) ? 0 : 100), 0);
        }
        fields(c, true);
        privateNames(c, names);
        Due.due("classes inside, at most", Math.max(11, c.getDeclaredClasses().length), 11);
        for (Class<?> inside : c.getDeclaredClasses()) {
            boolean fits = Modifier.isStatic(inside.getModifiers()) && !Modifier.isPublic(inside.getModifiers()) && !Modifier.isProtected(inside.getModifiers());
            Due.due(inside + " is static and not public", fits ? 1 : 0, 1);
            fields(inside, false);
            privateNames(inside, names);
        }
        newObject();
        Due.finish();
    }

    private static void fields(Class<?> c, boolean outer) {
        int own = 0;
        for (Field f : c.getDeclaredFields()) {
            boolean isNone = outer && f.getName().equals("NONE");
            if (Modifier.isStatic(f.getModifiers())) Due.due(f + " is final", Modifier.isFinal(f.getModifiers()) ? 1 : 0, 1); else own++;
            if (isNone) Due.due(f.toString(), Modifier.isPublic(f.getModifiers()) && f.getType() == int.class ? 1 : 0, 1);
            else if (outer) Due.due(f + " is private", Modifier.isPrivate(f.getModifiers()) ? 1 : 0, 1);
        }
        Due.due("fields of " + c + ", at most", Math.max(20, own), 20);
    }

    private static void privateNames(Class<?> c, Set<String> face) {
        for (Method m : c.getDeclaredMethods()) {
            boolean ofFace = c == TailRecorder.class && !Modifier.isPrivate(m.getModifiers());
            Due.due(m + " bears a name of the face", !ofFace && face.contains(m.getName()) ? 1 : 0, 0);
            Due.due(m + " has parameters, at most", Math.max(7, m.getParameterCount()), 7);
        }
    }

    /** Promise 1: no recorders; and nothing else. */
    private static void newObject() {
        TailRecorder x = new TailRecorder();
        Due.due("NONE", TailRecorder.NONE, -1);
        Due.row("counts", Due.counts(x), 0, 0, 0, -1, 0, 0);
        for (int r = -1; r < 5; r++) {
            Due.row("of recorder " + r + " that is none", new long[] {
                x.record(r, 0, 1, 0), x.at(r, 0), x.below(r, 0), x.total(r), x.rank(r, 0), x.about(r, 0), x.add(r, r),
                x.takeOff(r, r), x.halve(r), x.shelve(r), x.kind(r, -1), x.kind(r, 0), x.room(r), x.poke(r, 0, 0, 0, 1, 1),
                x.example(r, 0, false, 1), x.examples(r), x.pack(r), x.same(r, r), x.setting(r, 0)},
                -1, -1, -1, -1, -1, -1, -1, -1, -1, -1, -1, -1, -1, -1, -1, -1, -1, -1, -1);
            Due.due("peek", x.peek(r, 0, 0, 0, 0), Long.MIN_VALUE);
        }
        Due.row("acts on nothing", new long[] {x.begin(0), x.write(0, 0, 1, 0), x.stop(0), x.swap(), x.read(), x.undo()}, -1, -1, -1, -1, -1, -1);
        Due.row("counts", Due.counts(x), 0, 0, 0, -1, 0, 0);
    }
}
