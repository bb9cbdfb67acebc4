import java.io.IOException;
import java.lang.reflect.Constructor;
import java.lang.reflect.Field;
import java.lang.reflect.Member;
import java.lang.reflect.Method;
import java.lang.reflect.Modifier;
import java.nio.file.Files;
import java.nio.file.Path;
import java.util.Set;
import java.util.TreeSet;
import java.util.regex.Matcher;
import java.util.regex.Pattern;

/** The public face, and those rules of LANGUAGE.md that a text search and the class's own face can show. */
final class FaceTest {
    private static final String[] FACE = {
        "boolean parish 2", "boolean road 3", "boolean letter 3", "int feed 5", "int law 1", "int report 1",
        "boolean text 2", "int months 1", "int tried 2", "int parishIs 2", "int letterIs 2", "int toldAt 2",
        "int spreads 2", "int miles 2", "int round 3", "int readsMost 3", "int bestMonth 3", "int tales 2",
        "int far 2", "int nearest 2", "int fromWhom 0", "int misspelt 2", "int bids 3", "int divided 4",
        "int coins 3", "int lent 3", "boolean seed 1", "int keep 0", "boolean undo 0", "int check 1", "int count 1"};
    private static final String[] FORBIDDEN = {
        "throw", "try", "catch", "finally", "synchronized", "assert", "import", "package", "instanceof", "Exact\\(",
        "->", "::", "protected", "public static [^f]", "System\\.(?!arraycopy)", "Long\\.", "double", "float",
        "Integer\\.(?!bitCount\\()", "Math\\.(?!(min|max)\\()"};

    private FaceTest() {
    }

    public static void main(String[] args) throws IOException {
        face();
        nested();
        source(Files.readString(Path.of("src/main/java/BeggingLetter.java")));
        Due.end();
    }

    private static boolean isOwn(Member member) {
        return Modifier.isPrivate(member.getModifiers()) || member.isSynthetic();
    }

    private static void face() {
        Class<?> it = BeggingLetter.class;
        Due.holds("public and final", Modifier.isPublic(it.getModifiers()) && Modifier.isFinal(it.getModifiers()));
        Set<String> due = new TreeSet<>(Set.of(FACE));
        Set<String> names = new TreeSet<>();
        Set<String> got = new TreeSet<>();
        for (Method m : it.getDeclaredMethods()) {
            if (!isOwn(m)) {
                got.add(m.getReturnType() + " " + m.getName() + " " + m.getParameterCount());
                names.add(m.getName());
                Due.holds(m.getName() + " is public", Modifier.isPublic(m.getModifiers()));
                for (Class<?> type : m.getParameterTypes()) {
                    Due.holds(m.getName() + " takes ints", type == int.class);
                }
            }
        }
        Due.holds("the methods of the document: " + got, got.equals(due));
        for (Class<?> c : it.getDeclaredClasses()) {
            for (Method m : c.getDeclaredMethods()) {
                Due.holds(m.getName() + " bears no public one's name", !names.contains(m.getName()));
            }
        }
        for (Method m : it.getDeclaredMethods()) {
            Due.holds(m.getName() + " is not a private one of that name", !isOwn(m) || !names.contains(m.getName()));
        }
        for (Field f : it.getDeclaredFields()) {
            Due.holds("field " + f.getName(), isOwn(f) || f.getName().equals("NONE"));
        }
        for (Constructor<?> c : it.getDeclaredConstructors()) {
            Due.holds("constructor", c.getParameterCount() == 0 && Modifier.isPublic(c.getModifiers()));
        }
    }

    private static void nested() {
        Class<?>[] all = BeggingLetter.class.getDeclaredClasses();
        Due.holds("some twelve classes", all.length < 12);
        for (Class<?> c : all) {
            Due.holds(c + " is static", Modifier.isStatic(c.getModifiers()));
            Due.is(c + " has none inside", c.getDeclaredClasses().length, 0);
            int fields = 0;
            for (Field f : c.getDeclaredFields()) {
                boolean isStatic = Modifier.isStatic(f.getModifiers());
                Due.holds(c + " " + f.getName() + " is final if static", !isStatic || Modifier.isFinal(f.getModifiers()));
                fields += isStatic ? 0 : 1;
            }
            Due.holds(c + " has some twenty fields", fields <= 20);
            for (Method m : c.getDeclaredMethods()) {
                Due.holds(m + " takes seven at most", m.getParameterCount() <= 7);
            }
        }
    }

    private static void source(String text) {
        String code = text.replaceAll("(?s)/\\*.*?\\*/", "").replaceAll("//[^\n]*", "");
        for (String word : FORBIDDEN) {
            String pattern = Character.isLetter(word.charAt(0)) && Character.isLetter(word.charAt(word.length() - 1))
                ? "\\b" + word + "\\b" : word;
            Matcher found = Pattern.compile(pattern).matcher(code);
            Due.holds("no " + word, !found.find());
        }
        Matcher methods = Pattern.compile("(?m)^( +)\\S.*\\) \\{\n(?:\\1 .*\n|\n)*\\1\\}").matcher(code);
        while (methods.find()) {
            Due.holds("some sixty lines: " + methods.group().lines().findFirst().orElse(""),
                methods.group().lines().count() <= 62);
        }
        for (char sign : text.toCharArray()) {
            if (sign > 126) {
                Due.holds("signs of 1 to 126 alone: " + sign, false);
            }
        }
    }
}
