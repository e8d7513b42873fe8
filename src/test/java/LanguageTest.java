import java.io.IOException;
import java.lang.reflect.Constructor;
import java.lang.reflect.Field;
import java.lang.reflect.Method;
import java.lang.reflect.Modifier;
import java.nio.file.Files;
import java.nio.file.Path;
import java.util.Arrays;
import java.util.Set;
import java.util.TreeSet;
import java.util.regex.Matcher;
import java.util.regex.Pattern;
import java.util.stream.Collectors;

/** Those rules of LANGUAGE.md that can be seen from the class and its source. */
public final class LanguageTest {
    private static final String FACE = "feed(int,long) market() fault() told(int) person(int,int) worth(int,int) "
        + "bound(int,int,int) lot(int,int) hold(int,int) loose(int,int) press(int,int,int,int,int) price() "
        + "twitches(int) beat(int) drift(int) bargain(int,int,int) best(int) span(int,int) lie(int,int,int,int) "
        + "bestLie(int,int,int,int) seen(int,int,int,boolean) forget() fits(int,int) wentFor(int,int) meetings(int) "
        + "write(int,int,int,int) tear() judge() seed(int) keep(int) goBack(int)";
    private static final String[] BANNED = {"throw", "try", "catch", "synchronized", "assert", "import static",
        "System.out", "Random", "Thread", "->", "::", "hashCode", "toString", "Exact", "@Override", "volatile"};

    private LanguageTest() {
    }

    public static void main(String[] args) throws IOException {
        face();
        nested();
        source(Files.readString(Path.of("src/main/java/ClothPrices.java")));
        Check.end();
    }

    private static void rule(int number, String what, boolean isKept) {
        Check.due("rule " + number + ": " + what, isKept ? 1 : 0, 1);
    }

    private static void face() {
        Class<?> c = ClothPrices.class;
        rule(1, "public and final", Modifier.isPublic(c.getModifiers()) && Modifier.isFinal(c.getModifiers()));
        Set<String> due = new TreeSet<>(Arrays.asList(FACE.split(" ")));
        Set<String> got = new TreeSet<>();
        for (Method m : c.getDeclaredMethods()) {
            String name = m.getName() + Arrays.stream(m.getParameterTypes()).map(Class::getName)
                .collect(Collectors.joining(",", "(", ")"));
            if (Modifier.isPublic(m.getModifiers())) {
                got.add(name);
                rule(1, name + " answers an int", m.getReturnType() == int.class);
            } else {
                rule(1, name + " is private", Modifier.isPrivate(m.getModifiers()));
                rule(1, name + " has no public one's name", !(" " + FACE).contains(" " + m.getName() + "("));
            }
        }
        rule(1, "the face is " + got, got.equals(due));
        for (Constructor<?> k : c.getDeclaredConstructors()) {
            rule(1, "one public constructor", Modifier.isPublic(k.getModifiers()) && k.getParameterCount() == 0);
        }
        int constants = 0;
        for (Field f : c.getDeclaredFields()) {
            constants += Modifier.isPublic(f.getModifiers()) ? 1 : 0;
            rule(1, f.getName(), Modifier.isPublic(f.getModifiers()) || Modifier.isPrivate(f.getModifiers()));
        }
        rule(1, "five public constants", constants == 5);
    }

    private static void nested() {
        Class<?>[] all = ClothPrices.class.getDeclaredClasses();
        rule(11, "at most twelve classes", all.length < 12);
        for (Class<?> c : all) {
            rule(2, c.getName() + " is static", Modifier.isStatic(c.getModifiers()));
            rule(1, c.getName() + " is not public", !Modifier.isPublic(c.getModifiers()));
            for (Method m : c.getDeclaredMethods()) {
                rule(1, m.getName() + " is no public one's name", !(" " + FACE).contains(" " + m.getName() + "("));
                rule(11, m.getName() + " has seven parameters at most", m.getParameterCount() <= 7);
            }
            long own = Arrays.stream(c.getDeclaredFields()).filter(f -> !Modifier.isStatic(f.getModifiers())).count();
            rule(11, c.getName() + " has some twenty fields at most", own <= 20);
            for (Field f : c.getDeclaredFields()) {
                int m = f.getModifiers();
                rule(5, f.getName() + " is final, if static", !Modifier.isStatic(m) || Modifier.isFinal(m));
            }
        }
    }

    private static void source(String whole) {
        rule(4, "only java.util.Arrays is imported", whole.split("(?m)^import ").length == 2);
        String code = whole.replaceAll("(?s)/\\*.*?\\*/", "").replaceAll("//[^\n]*", "");
        for (String word : BANNED) {
            String edge = Character.isLetter(word.charAt(0)) ? "\\b" : "";
            rule(6, word, !Pattern.compile(edge + Pattern.quote(word) + edge).matcher(code).find());
        }
        Matcher start = Pattern.compile("(?m)^( {4}| {8})[a-z][^=;\n]*\\) \\{$").matcher(code);
        while (start.find()) {
            int end = code.indexOf("\n" + start.group(1) + "}", start.end());
            long lines = code.substring(start.start(), end).lines().count();
            rule(11, start.group().trim() + " has " + lines + " lines", lines <= 60);
        }
        int from = code.indexOf("public ClothPrices() {");
        String methods = code.substring(0, from) + code.substring(code.indexOf("\n    }", from));
        for (String line : methods.split("\n")) {
            boolean isField = line.matches(" {8}(private )?final [A-Za-z\\[\\]]+ [a-z][A-Za-z]* = new .*");
            rule(12, "made by a constructor alone: " + line, isField || !line.matches(".*\\bnew\\b.*"));
        }
    }
}
