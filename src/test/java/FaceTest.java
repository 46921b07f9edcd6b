import java.lang.reflect.Constructor;
import java.lang.reflect.Field;
import java.lang.reflect.Method;
import java.lang.reflect.Modifier;
import java.util.Arrays;
import java.util.Set;
import java.util.TreeSet;

/** The face is the document's and nothing more (rule 1 of LANGUAGE.md), and static state is constant (rule 5). */
public final class FaceTest {
    private static final Set<String> DUE = new TreeSet<>(Arrays.asList(
        "public static final int LeafBook.NONE",
        "public LeafBook(int)",
        "public int LeafBook.put(int,long) throws java.lang.IllegalStateException,java.lang.IllegalArgumentException",
        "public int LeafBook.drop(int) throws java.lang.IllegalStateException,java.lang.IllegalArgumentException",
        "public int LeafBook.version() throws java.lang.IllegalStateException",
        "public boolean LeafBook.has(int,int) throws java.lang.IllegalStateException,java.lang.IndexOutOfBoundsException",
        "public long LeafBook.find(int,int) throws java.lang.IllegalStateException,java.lang.IndexOutOfBoundsException",
        "public int LeafBook.count(int,int) throws java.lang.IllegalStateException,java.lang.IndexOutOfBoundsException,"
            + "java.lang.IllegalArgumentException",
        "public int LeafBook.key(int,int) throws java.lang.IllegalStateException,java.lang.IndexOutOfBoundsException",
        "public boolean LeafBook.same(int,int) throws java.lang.IllegalStateException,java.lang.IndexOutOfBoundsException",
        "public int LeafBook.free() throws java.lang.IllegalStateException",
        "public int LeafBook.crash(int) throws java.lang.IllegalStateException,java.lang.IllegalArgumentException",
        "public int LeafBook.reopen()",
        "public long LeafBook.wordAt(int,int) throws java.lang.IndexOutOfBoundsException",
        "public long LeafBook.rootAt(int,int) throws java.lang.IndexOutOfBoundsException",
        "public void LeafBook.poke(int,int,long) throws java.lang.IndexOutOfBoundsException,"
            + "java.lang.IllegalArgumentException",
        "public void LeafBook.pokeRoot(int,int,long) throws java.lang.IndexOutOfBoundsException,"
            + "java.lang.IllegalArgumentException",
        "public int LeafBook.badAt()"));

    private static int wrong = 0;

    private static void check(boolean good, String complaint) {
        if (!good) {
            wrong++;
            System.out.println(complaint);
        }
    }

    public static void main(String[] args) {
        Set<String> open = new TreeSet<>();
        Set<String> publicNames = new TreeSet<>();
        for (Field f : LeafBook.class.getDeclaredFields()) {
            if (!Modifier.isPrivate(f.getModifiers())) {
                open.add(f.toGenericString());
            }
            check(!Modifier.isStatic(f.getModifiers()) || Modifier.isFinal(f.getModifiers()), f + " is static state");
        }
        for (Constructor<?> c : LeafBook.class.getDeclaredConstructors()) {
            open.add(c.toGenericString());
        }
        for (Method m : LeafBook.class.getDeclaredMethods()) {
            if (!Modifier.isPrivate(m.getModifiers())) {
                open.add(m.toGenericString());
                publicNames.add(m.getName());
            }
        }
        for (Method m : LeafBook.class.getDeclaredMethods()) {
            boolean hidden = Modifier.isPrivate(m.getModifiers());
            check(!hidden || !publicNames.contains(m.getName()), m + " bears the name of a public method");
        }
        check(open.equals(DUE), "the face is " + open + ", due is " + DUE);
        int modifiers = LeafBook.class.getModifiers();
        check(Modifier.isPublic(modifiers) && Modifier.isFinal(modifiers), "the class is not public and final");
        check(LeafBook.NONE == -1, "NONE is " + LeafBook.NONE);
        System.out.println(wrong == 0 ? "the face is as due" : wrong + " wrong");
        if (wrong != 0) {
            System.exit(1);
        }
    }
}
