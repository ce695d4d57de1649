import java.lang.reflect.Constructor;
import java.lang.reflect.Field;
import java.lang.reflect.Method;
import java.lang.reflect.Modifier;
import java.util.Set;
import java.util.TreeSet;

/** The public face is the document's, and nothing else of the class is visible. */
public final class FaceTest {
    private static final String[] FACE = {
        "public static final int GoodsTree.NONE",
        "public GoodsTree()",
        "public boolean GoodsTree.sign(int)",
        "public int GoodsTree.read() throws java.lang.IllegalStateException",
        "public int GoodsTree.failure(int)",
        "public boolean GoodsTree.edition(int)",
        "public long GoodsTree.row(int,int) throws java.lang.IndexOutOfBoundsException",
        "public int GoodsTree.find(long)",
        "public int GoodsTree.note(long,int,long)"
            + " throws java.lang.IllegalArgumentException,java.lang.IllegalStateException",
        "public int GoodsTree.noted(long,int) throws java.lang.IllegalArgumentException",
        "public boolean GoodsTree.link(int,long,int,long)",
        "public int GoodsTree.became(int,long,int) throws java.lang.IllegalArgumentException",
        "public long GoodsTree.linked(int,long,int,int) throws java.lang.IllegalArgumentException",
        "public int GoodsTree.lost(int,int) throws java.lang.IllegalArgumentException",
        "public int GoodsTree.search() throws java.lang.IllegalStateException",
        "public long GoodsTree.found(int,int) throws java.lang.IndexOutOfBoundsException",
        "public int GoodsTree.count(int)"};

    private FaceTest() {
    }

    public static void main(String[] args) {
        Set<String> seen = new TreeSet<>();
        for (Field f : GoodsTree.class.getDeclaredFields()) {
            addVisible(seen, f.getModifiers(), f.toString());
        }
        for (Constructor<?> c : GoodsTree.class.getDeclaredConstructors()) {
            addVisible(seen, c.getModifiers(), c.toString());
        }
        for (Method m : GoodsTree.class.getDeclaredMethods()) {
            addVisible(seen, m.getModifiers(), m.toString());
        }
        Check.due("face", new TreeSet<>(Set.of(FACE)), seen);
        int modifiers = GoodsTree.class.getModifiers();
        Check.due("class", true, Modifier.isPublic(modifiers) && Modifier.isFinal(modifiers));
        Check.end();
    }

    private static void addVisible(Set<String> seen, int modifiers, String told) {
        if (!Modifier.isPrivate(modifiers)) {
            seen.add(told);
        }
    }
}
