import java.io.IOException;
import java.lang.reflect.Constructor;
import java.lang.reflect.Field;
import java.lang.reflect.Method;
import java.lang.reflect.Modifier;
import java.nio.file.Files;
import java.nio.file.Path;
import java.util.Arrays;
import java.util.Set;
import java.util.TreeSet;
import java.util.regex.Matcher;
import java.util.regex.Pattern;

/** The public face of the document, and what can be seen of LANGUAGE.md's rules from the class and its source. */
public final class FaceTest {
    private static final String[] METHODS = {
        "int write(int)", "int wipe()", "int fault()", "int hall()", "int name(int,int)", "int person(int,int)",
        "int take(int,int)", "int hang(int)", "int hour()", "int run(int)", "int undo()", "int most(int,boolean)",
        "int waiting(int,int)", "int first()", "int fire(boolean)", "int judge(int,int)", "int see(int,int)",
        "int deed(int,int)", "int forget()", "int who(int)", "int share(int,int,boolean)", "int rests(int,int,int,int)",
        "int letter(int,int,boolean)", "long seed(long)", "int days(int)", "int keep(int)", "int again(int)",
        "int count(int)"};
    private static final String[] CONSTANTS = {"UNKNOWN", "OUTSIDE", "STATE", "FULL", "NONE"};
    private static final String[] FORBIDDEN = {
        "throw", "throws", "try", "catch", "finally", "synchronized", "assert", "package", "native", "volatile",
        "Object", "Exception", "Random", "System.nanoTime", "System.currentTimeMillis", "Thread", "->", "::", "Exact("};

    public static void main(String[] args) throws IOException {
        methods();
        constants();
        constructors();
        classesInside();
        source(Files.readString(Path.of("src/main/java/NameHall.java")));
        Check.end("FaceTest");
    }

    private static String told(Method m) {
        String full = m.toGenericString();
        String parameters = full.substring(full.indexOf('('));
        return m.getReturnType().getSimpleName() + " " + m.getName() + parameters;
    }

    private static void methods() {
        Set<String> face = new TreeSet<>();
        Set<String> publicNames = new TreeSet<>();
        Set<String> privateNames = new TreeSet<>();
        for (Method m : NameHall.class.getDeclaredMethods()) {
            if (Modifier.isPublic(m.getModifiers())) {
                face.add(told(m));
                publicNames.add(m.getName());
            } else {
                Check.holds(m.getName() + " is private", Modifier.isPrivate(m.getModifiers()));
                privateNames.add(m.getName());
            }
            Check.holds(m.getName() + " takes seven at most", m.getParameterCount() <= 7);
        }
        Check.holds("the methods " + face, face.equals(new TreeSet<>(Arrays.asList(METHODS))));
        privateNames.retainAll(publicNames);
        Check.holds("no private method bears a public name " + privateNames, privateNames.isEmpty());
    }

    private static void constants() {
        Set<String> face = new TreeSet<>();
        for (Field f : NameHall.class.getDeclaredFields()) {
            int modifiers = f.getModifiers();
            if (Modifier.isPublic(modifiers)) {
                face.add(f.getName());
                Check.holds(f.getName(), Modifier.isStatic(modifiers) && Modifier.isFinal(modifiers) && f.getType() == int.class);
            } else {
                Check.holds(f.getName() + " is private", Modifier.isPrivate(modifiers));
                Check.holds(f.getName(), !Modifier.isStatic(modifiers) || Modifier.isFinal(modifiers));
            }
        }
        Check.holds("the constants " + face, face.equals(new TreeSet<>(Arrays.asList(CONSTANTS))));
        Check.due("UNKNOWN", NameHall.UNKNOWN, -1);
        Check.due("OUTSIDE", NameHall.OUTSIDE, -2);
        Check.due("STATE", NameHall.STATE, -3);
        Check.due("FULL", NameHall.FULL, -4);
        Check.due("NONE", NameHall.NONE, -9);
    }

    private static void constructors() {
        Constructor<?>[] all = NameHall.class.getDeclaredConstructors();
        Check.due("constructors", all.length, 1);
        Check.holds("a public one without parameters", Modifier.isPublic(all[0].getModifiers()) && all[0].getParameterCount() == 0);
        int modifiers = NameHall.class.getModifiers();
        Check.holds("public and final", Modifier.isPublic(modifiers) && Modifier.isFinal(modifiers));
    }

    private static void classesInside() {
        Class<?>[] inside = NameHall.class.getDeclaredClasses();
        Check.holds("twelve classes at most", inside.length + 1 <= 12);
        for (Class<?> c : inside) {
            int modifiers = c.getModifiers();
            Check.holds(c + " is static", Modifier.isStatic(modifiers));
            Check.holds(c + " is not public", !Modifier.isPublic(modifiers) && !Modifier.isProtected(modifiers));
            Check.holds(c + " has twenty fields at most", c.getDeclaredFields().length <= 20);
            for (Field f : c.getDeclaredFields()) {
                Check.holds(f.toString(), !Modifier.isStatic(f.getModifiers()) || Modifier.isFinal(f.getModifiers()));
            }
        }
    }

    private static void source(String source) {
        String code = source.replaceAll("(?s)/\\*.*?\\*/", "").replaceAll("//[^\n]*", "");
        for (String word : FORBIDDEN) {
            boolean isWord = Character.isLetter(word.charAt(0)) && !word.endsWith("(");
            Pattern p = Pattern.compile(isWord ? "\\b" + Pattern.quote(word) + "\\b" : Pattern.quote(word));
            Check.holds("without " + word, !p.matcher(code).find());
        }
        Matcher imports = Pattern.compile("import ([^;]*);").matcher(code);
        while (imports.find()) {
            Check.holds(imports.group(), Set.of("java.util.Arrays", "java.util.ArrayList", "java.util.List").contains(imports.group(1)));
        }
        Check.holds("ASCII alone", source.chars().allMatch(c -> c < 128));
        Check.holds("loops by for alone", !Pattern.compile("\\b(while|do)\\b").matcher(code).find());
        shortMethods(source);
    }

    private static void shortMethods(String source) {
        String[] lines = source.split("\n");
        int start = -1;
        String end = "";
        for (int i = 0; i < lines.length; i++) {
            Matcher head = Pattern.compile("^( {4}| {8})[A-Za-z][^=;]*\\) \\{$").matcher(lines[i]);
            if (start < 0 && head.find()) {
                start = i;
                end = head.group(1) + "}";
            } else if (start >= 0 && lines[i].equals(end)) {
                Check.holds("short: " + lines[start].trim(), i - start < 60);
                start = -1;
            }
        }
        Check.holds("every method was seen to end", start < 0);
    }
}
