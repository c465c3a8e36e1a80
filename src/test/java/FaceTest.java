import java.lang.reflect.Constructor;
import java.lang.reflect.Field;
import java.lang.reflect.Method;
import java.lang.reflect.Modifier;
import java.util.ArrayList;
import java.util.Arrays;
import java.util.List;

/** The public face: just what the document names, with the exceptions that it names. */
public final class FaceTest {
    public static void main(String[] args) {
        Class<?> c = PatternJudge.class;
        Check.due("class", () -> Modifier.toString(c.getModifiers()), "public final");
        List<String> face = new ArrayList<>();
        for (Constructor<?> k : c.getDeclaredConstructors()) {
            face.add(k.toString());
        }
        for (Method m : c.getDeclaredMethods()) {
            if (!Modifier.isPrivate(m.getModifiers()) && !m.isSynthetic()) {
                face.add(m.toString());
            }
        }
        for (Field f : c.getDeclaredFields()) {
            if (!Modifier.isPrivate(f.getModifiers())) {
                face.add(f.toString());
            }
        }
        face.sort(null);
        List<String> due = Arrays.asList(
                "public PatternJudge()",
                "public boolean PatternJudge.matches() throws java.lang.IllegalArgumentException",
                "public int PatternJudge.first() throws java.lang.IllegalArgumentException",
                "public int PatternJudge.letter(boolean,int)"
                        + " throws java.lang.IllegalArgumentException,java.lang.IndexOutOfBoundsException",
                "public int PatternJudge.letters(boolean,long) throws java.lang.IndexOutOfBoundsException",
                "public int PatternJudge.longest(int)"
                        + " throws java.lang.IllegalArgumentException,java.lang.IndexOutOfBoundsException",
                "public int PatternJudge.size() throws java.lang.IllegalArgumentException",
                "public void PatternJudge.clear(boolean)");
        Check.due("face", () -> face, due);
        Check.end("FaceTest");
    }
}
