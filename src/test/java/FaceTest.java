import java.lang.reflect.Constructor;
import java.lang.reflect.Field;
import java.lang.reflect.Method;
import java.lang.reflect.Modifier;
import java.util.Set;
import java.util.TreeSet;

/** The public face is the document's, whole, and nothing beside it can be seen from outside. */
public final class FaceTest {
    private static final Set<String> FACE = Set.of(
            "public static final int ClaimBench.NONE",
            "public ClaimBench()",
            "public int ClaimBench.tick(int)",
            "public boolean ClaimBench.forward(int,int,boolean)",
            "public boolean ClaimBench.place(int,int,boolean,int)",
            "public boolean ClaimBench.there(int,boolean)",
            "public boolean ClaimBench.deaf(int,boolean)",
            "public int ClaimBench.data(int,int)",
            "public int ClaimBench.said(int)",
            "public int ClaimBench.claim(int,int)",
            "public int ClaimBench.kept(int,int)",
            "public boolean ClaimBench.lost(int,int)",
            "public int ClaimBench.sends(int)",
            "public int ClaimBench.look(int)");

    public static void main(String[] args) {
        Set<String> seen = new TreeSet<>();
        Set<String> publicNames = new TreeSet<>();
        Set<String> privateNames = new TreeSet<>();
        for (Field field : ClaimBench.class.getDeclaredFields()) {
            if (!Modifier.isPrivate(field.getModifiers())) {
                seen.add(field.toString());
            }
        }
        for (Constructor<?> constructor : ClaimBench.class.getDeclaredConstructors()) {
            if (!Modifier.isPrivate(constructor.getModifiers())) {
                seen.add(constructor.toString());
            }
        }
        for (Method method : ClaimBench.class.getDeclaredMethods()) {
            if (Modifier.isPrivate(method.getModifiers())) {
                privateNames.add(method.getName());
            } else {
                seen.add(method.toString());
                publicNames.add(method.getName());
            }
        }
        privateNames.retainAll(publicNames);
        int modifiers = ClaimBench.class.getModifiers();
        boolean sealed = Modifier.isPublic(modifiers) && Modifier.isFinal(modifiers);
        if (!seen.equals(FACE) || !privateNames.isEmpty() || !sealed) {
            System.out.println("the face is " + seen + ", due is " + new TreeSet<>(FACE)
                    + "; private methods with a public name: " + privateNames
                    + "; public and final: " + sealed);
            System.exit(1);
        }
        System.out.println("the face is the document's");
    }
}
