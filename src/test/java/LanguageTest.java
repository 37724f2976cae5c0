import java.io.IOException;
import java.lang.reflect.Constructor;
import java.lang.reflect.Field;
import java.lang.reflect.Method;
import java.lang.reflect.Modifier;
import java.nio.file.Files;
import java.nio.file.Path;
import java.util.Arrays;
import java.util.Set;
import java.util.TreeSet;
import java.util.regex.Matcher;
import java.util.regex.Pattern;

/** The rules of LANGUAGE.md that a program can look at, and the face of the class. */
public final class LanguageTest {
    private static final Due DUE = new Due("LanguageTest");
    private static final String FACE = "house thing fill clear out undo open on rows row tear copy told hold load free "
        + "turning kind steps pieces piece area slide end way step count reached reaches held doors narrow draft check "
        + "many finding findings digest";

    public static void main(String[] args) throws IOException {
        face();
        nested();
        String source = Files.readString(Path.of("src/main/java/PianoHouse.java"));
        String code = source.replaceAll("(?s)/\\*.*?\\*/", "").replaceAll("//[^\n]*", "");
        forbidden(source, code);
        methods(code);
        DUE.end();
    }

    private static void face() {
        Set<String> due = new TreeSet<>(Arrays.asList(FACE.split(" ")));
        Set<String> open = new TreeSet<>();
        for (Method m : PianoHouse.class.getDeclaredMethods()) {
            if (Modifier.isPrivate(m.getModifiers())) {
                DUE.holds(m.getName() + " is no name of the face", !due.contains(m.getName()));
            } else {
                DUE.holds(m.getName() + " is public and named once", Modifier.isPublic(m.getModifiers()) && open.add(m.getName()));
            }
        }
        DUE.holds("the methods of the face " + open, open.equals(due));
        Set<String> constants = new TreeSet<>();
        for (Field f : PianoHouse.class.getDeclaredFields()) {
            if (!Modifier.isPrivate(f.getModifiers())) constants.add(f.getName());
            if (Modifier.isStatic(f.getModifiers())) DUE.holds(f.getName() + " is final", Modifier.isFinal(f.getModifiers()));
        }
        DUE.holds("the constants " + constants, constants.equals(Set.of("BAD", "FULL", "FINDING", "STATE", "NONE")));
        Constructor<?>[] constructors = PianoHouse.class.getDeclaredConstructors();
        DUE.is("constructors", constructors.length, 1);
        DUE.holds("public", Modifier.isPublic(constructors[0].getModifiers()));
        DUE.holds("public and final", Modifier.isPublic(PianoHouse.class.getModifiers()) && Modifier.isFinal(PianoHouse.class.getModifiers()));
    }

    private static void nested() {
        Class<?>[] all = PianoHouse.class.getDeclaredClasses();
        DUE.holds("at most twelve classes", all.length <= 12);
        Set<String> due = Set.of(FACE.split(" "));
        for (Class<?> c : all) {
            int m = c.getModifiers();
            DUE.holds(c + " is static, not public", Modifier.isStatic(m) && !Modifier.isPublic(m) && !Modifier.isProtected(m));
            for (Method method : c.getDeclaredMethods()) {
                boolean clash = Modifier.isPrivate(method.getModifiers()) && due.contains(method.getName());
                DUE.holds(c + "." + method.getName() + " is no name of the face", !clash);
            }
        }
        for (Class<?> c : all) fields(c);
        fields(PianoHouse.class);
    }

    private static void fields(Class<?> c) {
        long own = Arrays.stream(c.getDeclaredFields()).filter(f -> !Modifier.isStatic(f.getModifiers())).count();
        DUE.holds(c + " has " + own + " fields", own <= 20);
    }

    private static void forbidden(String source, String code) {
        DUE.holds("plain signs alone", source.chars().allMatch(c -> c == '\n' || c >= 32 && c < 127));
        for (String word : "package import throw throws try catch synchronized assert float double".split(" ")) {
            DUE.holds("no " + word, !Pattern.compile("\\b" + word + "\\b").matcher(code).find());
        }
        DUE.holds("no lambda, no reference", !code.contains("->") && !code.contains("::"));
        // Every object is made with the house: a call makes none.
        Matcher made = Pattern.compile("^( *)(.*)\\bnew\\b", Pattern.MULTILINE).matcher(code);
        while (made.find()) DUE.holds("new in a field alone: " + made.group(), made.group(2).contains("final "));
        Matcher divided = Pattern.compile("[/%] *([A-Za-z0-9]+)").matcher(code);
        while (divided.find()) DUE.holds("divided by a constant: " + divided.group(), divided.group(1).matches("[A-Z_]+"));
        DUE.holds("no while", !Pattern.compile("\\bwhile\\b").matcher(code).find());
    }

    private static void methods(String code) {
        Matcher head = Pattern.compile("^ +[a-z][\\w\\[\\] ]* \\w+\\(([^)]*)\\) \\{$", Pattern.MULTILINE).matcher(code);
        int found = 0;
        while (head.find()) {
            if (head.group().contains("new ") || head.group().contains("else ")) continue;
            found++;
            DUE.holds("parameters of " + head.group(), head.group(1).split(",").length <= 7);
            String indent = head.group().replaceAll("\\S.*", "").replace("\n", "");
            int end = code.indexOf("\n" + indent + "}", head.end());
            long lines = code.substring(head.start(), end).lines().count();
            DUE.holds("lines of " + head.group() + ": " + lines, lines <= 60);
        }
        DUE.holds("methods found: " + found, found > 100);
    }
}
