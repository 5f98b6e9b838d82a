import java.lang.reflect.Constructor;
import java.lang.reflect.Field;
import java.lang.reflect.Method;
import java.lang.reflect.Modifier;
import java.util.Set;
import java.util.TreeSet;

/** The public face is the document's, and nothing else of the class can be seen from outside. */
public final class FaceTest {
    private static final Set<String> FACE = Set.of("int word(int,int,int,boolean,boolean)",
            "boolean change(int,int,int,int,boolean,boolean)", "int reading()", "boolean take(int)",
            "boolean tune(int)", "boolean ideal(int)", "boolean manner(int,int,int,int)",
            "int feed(long,long,long)", "int rules()", "boolean hand(int,int,int)", "boolean speed(int,int)",
            "int phrases()", "int phrase(int,int)", "int shape(int,int)", "int fit()", "int pause(int,int)",
            "int apart(int,int)", "int count(int)");

    public static void main(String[] args) {
        Class<?> face = VoiceShaper.class;
        Check.yes("public", Modifier.isPublic(face.getModifiers()));
        Check.yes("final", Modifier.isFinal(face.getModifiers()));
        Set<String> seen = new TreeSet<>();
        Set<String> names = new TreeSet<>();
        for (Method m : face.getDeclaredMethods()) {
            if (!Modifier.isPrivate(m.getModifiers())) {
                Check.yes(m + " is public", Modifier.isPublic(m.getModifiers()));
                String all = m.toGenericString().replaceFirst(" throws .*", "");
                seen.add(all.replace("public ", "").replace("VoiceShaper.", ""));
                names.add(m.getName());
            }
        }
        Check.yes("the methods " + seen, seen.equals(FACE));
        privateNames(face, names);
        for (Class<?> inside : face.getDeclaredClasses()) {
            Check.yes(inside + " is static", Modifier.isStatic(inside.getModifiers()));
            Check.no(inside + " is public", Modifier.isPublic(inside.getModifiers()));
            privateNames(inside, names);
        }
        for (Constructor<?> c : face.getDeclaredConstructors()) {
            Check.due(c + " takes nothing", c.getParameterCount(), 0);
        }
        for (Field f : face.getDeclaredFields()) {
            boolean constant = f.getName().equals("NONE") && Modifier.isPublic(f.getModifiers());
            Check.yes(f + " is private", constant || Modifier.isPrivate(f.getModifiers()));
        }
        Check.due("NONE", VoiceShaper.NONE, -1);
        Check.end();
    }

    private static void privateNames(Class<?> of, Set<String> names) {
        for (Method m : of.getDeclaredMethods()) {
            if (Modifier.isPrivate(m.getModifiers()) || of != VoiceShaper.class) {
                Check.no(m + " bears the name of a public one", names.contains(m.getName()));
            }
        }
    }
}
