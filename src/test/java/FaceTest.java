import java.lang.reflect.Constructor;
import java.lang.reflect.Field;
import java.lang.reflect.Method;
import java.lang.reflect.Modifier;
import java.util.Arrays;
import java.util.Set;
import java.util.TreeSet;

/** The public face of the document: its constants, constructor and methods, and no other member that can be seen. */
public final class FaceTest {
    private static final String[] METHODS = {
        "int write(int)", "int wipe()", "int fault()", "int hall()", "int name(int,int)", "int person(int,int)",
        "int take(int,int)", "int hang(int)", "int hour()", "int run(int)", "int undo()", "int most(int,boolean)",
        "int waiting(int,int)", "int first()", "int fire(boolean)", "int judge(int,int)", "int see(int,int)",
        "int deed(int,int)", "int forget()", "int who(int)", "int share(int,int,boolean)", "int rests(int,int,int,int)",
        "int letter(int,int,boolean)", "long seed(long)", "int days(int)", "int keep(int)", "int again(int)",
        "int count(int)"};
    private static final String[] CONSTANTS = {"UNKNOWN", "OUTSIDE", "STATE", "FULL", "NONE"};

    public static void main(String[] args) {
        methods();
        constants();
        constructors();
        Check.end("FaceTest");
    }

    private static String told(Method m) {
        String full = m.toGenericString();
        String parameters = full.substring(full.indexOf('('));
        return m.getReturnType().getSimpleName() + " " + m.getName() + parameters;
    }

    private static void methods() {
        Set<String> face = new TreeSet<>();
        Set<String> publicNames = new TreeSet<>();
        Set<String> privateNames = new TreeSet<>();
        for (Method m : NameHall.class.getDeclaredMethods()) {
            if (Modifier.isPublic(m.getModifiers())) {
                face.add(told(m));
                publicNames.add(m.getName());
            } else {
                Check.holds(m.getName() + " is private", Modifier.isPrivate(m.getModifiers()));
                privateNames.add(m.getName());
            }
            Check.holds(m.getName() + " takes seven at most", m.getParameterCount() <= 7);
        }
        Check.holds("the methods " + face, face.equals(new TreeSet<>(Arrays.asList(METHODS))));
        privateNames.retainAll(publicNames);
        Check.holds("no private method bears a public name " + privateNames, privateNames.isEmpty());
    }

    private static void constants() {
        Set<String> face = new TreeSet<>();
        for (Field f : NameHall.class.getDeclaredFields()) {
            int modifiers = f.getModifiers();
            if (Modifier.isPublic(modifiers)) {
                face.add(f.getName());
                Check.holds(f.getName(), Modifier.isStatic(modifiers) && Modifier.isFinal(modifiers) && f.getType() == int.class);
            } else {
                Check.holds(f.getName() + " is private", Modifier.isPrivate(modifiers));
                Check.holds(f.getName(), !Modifier.isStatic(modifiers) || Modifier.isFinal(modifiers));
            }
        }
        Check.holds("the constants " + face, face.equals(new TreeSet<>(Arrays.asList(CONSTANTS))));
        Check.due("UNKNOWN", NameHall.UNKNOWN, -1);
        Check.due("OUTSIDE", NameHall.OUTSIDE, -2);
        Check.due("STATE", NameHall.STATE, -3);
        Check.due("FULL", NameHall.FULL, -4);
        Check.due("NONE", NameHall.NONE, -9);
    }

    private static void constructors() {
        Constructor<?>[] all = NameHall.class.getDeclaredConstructors();
        Check.due("constructors", all.length, 1);
        Check.holds("a public one without parameters", Modifier.isPublic(all[0].getModifiers()) && all[0].getParameterCount() == 0);
        int modifiers = NameHall.class.getModifiers();
        Check.holds("public and final", Modifier.isPublic(modifiers) && Modifier.isFinal(modifiers));
    }
}
