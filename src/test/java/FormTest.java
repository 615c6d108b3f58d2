import java.lang.reflect.Constructor;
import java.lang.reflect.Field;
import java.lang.reflect.Method;
import java.lang.reflect.Modifier;
import java.nio.file.Files;
import java.nio.file.Path;
import java.util.Arrays;
import java.util.Set;
import java.util.TreeSet;
import java.util.regex.Matcher;
import java.util.regex.Pattern;
import java.util.stream.Collectors;

/** The public face, and those rules of LANGUAGE.md that can be seen from outside or in the text. */
public final class FormTest {
    private static final Due due = new Due("FormTest");
    private static final String FACE = "champion() clear() count(int) found(int) game(int,int) handicap(int) hit(int) "
        + "hour(int) index(int,int) lawns(int) laws() lay(int) match(int,int) settle() state(int,int) stroke(int,int) "
        + "told(int,int) type(long,int) unwin(int) win(int,int)";
    private static final String[] BANNED = {"throw", "throws", "try", "catch", "synchronized", "assert", "finally",
        "protected", "native", "volatile", "->", "::", "Exact(", "@", "equals", "hashCode", "System.out", "Random"};

    public static void main(String[] args) throws Exception {
        face();
        insides();
        text(Files.readString(Path.of("src/main/java/CroquetLawn.java")));
        due.end();
    }

    private static void holds(String what, boolean so) {
        due.is(what, so ? 1 : 0, 1);
    }

    private static void face() {
        Class<?> c = CroquetLawn.class;
        holds("public and final", Modifier.isPublic(c.getModifiers()) && Modifier.isFinal(c.getModifiers()));
        Set<String> names = new TreeSet<>();
        for (Method m : c.getDeclaredMethods()) {
            if (!Modifier.isPrivate(m.getModifiers())) {
                holds(m + " is public and answers an int", Modifier.isPublic(m.getModifiers())
                    && !Modifier.isStatic(m.getModifiers()) && m.getReturnType() == int.class);
                names.add(m.getName() + Arrays.stream(m.getParameterTypes()).map(Class::getName)
                    .collect(Collectors.joining(",", "(", ")")));
            }
        }
        String face = String.join(" ", names);
        holds("the methods of the face: " + face, face.equals(FACE));
        Constructor<?>[] made = c.getDeclaredConstructors();
        holds("one public constructor without parameters", made.length == 1 && made[0].getParameterCount() == 0
            && Modifier.isPublic(made[0].getModifiers()));
        Set<String> constants = new TreeSet<>();
        for (Field f : c.getDeclaredFields()) {
            if (!Modifier.isPrivate(f.getModifiers())) {
                constants.add(f.getName());
            }
        }
        holds("the constants of the face", constants.toString().equals("[BAD, CAST, FULL, NONE, NOT]"));
    }

    private static void insides() {
        Class<?>[] inside = CroquetLawn.class.getDeclaredClasses();
        holds("at most twelve classes", inside.length < 12);
        for (Class<?> c : inside) {
            int how = c.getModifiers();
            holds(c + " is static and not public", Modifier.isStatic(how) && !Modifier.isPublic(how));
            int own = 0;
            for (Field f : c.getDeclaredFields()) {
                boolean shared = Modifier.isStatic(f.getModifiers());
                holds(f + " is final if it is static", !shared || Modifier.isFinal(f.getModifiers()));
                own += shared ? 0 : 1;
            }
            holds(c + " has at most twenty fields", own <= 20);
            for (Method m : c.getDeclaredMethods()) {
                holds(m + " does not bear the name of a public one", !(" " + FACE).contains(" " + m.getName() + "("));
                holds(m + " takes at most seven parameters", m.getParameterCount() <= 7);
            }
        }
        for (Method m : CroquetLawn.class.getDeclaredMethods()) {
            holds(m + " does not bear the name of a public one", !Modifier.isPrivate(m.getModifiers())
                || !(" " + FACE).contains(" " + m.getName() + "("));
        }
    }

    private static void text(String source) {
        holds("no sign beyond 127", source.chars().allMatch(c -> c < 128));
        String code = source.replaceAll("/\\*[\\s\\S]*?\\*/|//.*", "");
        for (String banned : BANNED) {
            String edge = Character.isLetter(banned.charAt(0)) && Character.isLetter(banned.charAt(banned.length() - 1)) ? "\\b" : "";
            Matcher m = Pattern.compile(edge + Pattern.quote(banned) + edge).matcher(code);
            holds("no " + banned, !m.find());
        }
        Matcher imports = Pattern.compile("import ([^;]*);").matcher(code);
        while (imports.find()) {
            holds("import " + imports.group(1), imports.group(1).equals("java.util.Arrays"));
        }
        methodsAreShort(source);
    }

    private static void methodsAreShort(String source) {
        int begun = 0;
        String[] lines = source.split("\n");
        for (int k = 0; k < lines.length; k++) {
            if (lines[k].matches(" {4}( {4})?[a-z].*\\) \\{")) {
                begun = k;
            }
            if (lines[k].matches(" {4}( {4})?\\}")) {
                holds("the method behind line " + begun + " is short", k - begun <= 60 || lines[begun].contains("class"));
            }
        }
    }
}
