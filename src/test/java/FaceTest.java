import java.lang.reflect.Constructor;
import java.lang.reflect.Field;
import java.lang.reflect.Method;
import java.lang.reflect.Modifier;
import java.util.Arrays;
import java.util.Set;
import java.util.TreeSet;

/** The public face is the document's, and nothing else of the class can be seen from outside. */
public final class FaceTest {
    private static final Set<String> FACE = Set.of(
            "public int BlockJournal.feed(int,long)"
                    + " throws java.lang.IllegalArgumentException,java.lang.IllegalStateException",
            "public int BlockJournal.put(int)"
                    + " throws java.lang.IllegalArgumentException,java.lang.IllegalStateException",
            "public int BlockJournal.drop()",
            "public boolean BlockJournal.commit() throws java.lang.IllegalStateException",
            "public int BlockJournal.recover() throws java.lang.IllegalStateException",
            "public void BlockJournal.lose(int)"
                    + " throws java.lang.IllegalArgumentException,java.lang.IllegalStateException",
            "public boolean BlockJournal.power()",
            "public int BlockJournal.spoil(int,int,int) throws java.lang.IllegalArgumentException",
            "public int BlockJournal.at(int,int) throws java.lang.IllegalArgumentException",
            "public int BlockJournal.change(int) throws java.util.NoSuchElementException",
            "public long BlockJournal.look(int) throws java.util.NoSuchElementException",
            "public BlockJournal()");

    public static void main(String[] args) {
        Due due = new Due();
        due.about("The public face");
        Set<String> seen = new TreeSet<>();
        for (Method method : BlockJournal.class.getDeclaredMethods()) {
            note(seen, method.getModifiers(), method.toString());
        }
        for (Constructor<?> made : BlockJournal.class.getDeclaredConstructors()) {
            note(seen, made.getModifiers(), made.toString());
        }
        for (Field field : BlockJournal.class.getDeclaredFields()) {
            note(seen, field.getModifiers(), field.toString());
        }
        due.compare("the face", new TreeSet<>(FACE), seen);
        int modifiers = BlockJournal.class.getModifiers();
        due.compare("public and final", Modifier.PUBLIC | Modifier.FINAL, modifiers);
        due.compare("class above", Object.class, BlockJournal.class.getSuperclass());
        due.compare("interfaces", "[]", Arrays.toString(BlockJournal.class.getInterfaces()));
        madeOnce(due);
        due.end();
    }

    private static void madeOnce(Due due) {
        due.about("All memory is the class's own, made once.");
        for (Field field : BlockJournal.class.getDeclaredFields()) {
            if (!field.getType().isPrimitive()) {
                due.compare(field.getName() + " is final", true, Modifier.isFinal(field.getModifiers()));
                due.compare(field.getName() + " is the object's own", false, Modifier.isStatic(field.getModifiers()));
            }
        }
    }

    private static void note(Set<String> seen, int modifiers, String member) {
        if (!Modifier.isPrivate(modifiers)) {
            seen.add(member);
        }
    }
}
