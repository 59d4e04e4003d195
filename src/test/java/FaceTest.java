import java.io.IOException;
import java.lang.reflect.Constructor;
import java.lang.reflect.Field;
import java.lang.reflect.Method;
import java.lang.reflect.Modifier;
import java.nio.file.Files;
import java.nio.file.Path;
import java.util.Arrays;
import java.util.Set;
import java.util.TreeSet;
import java.util.regex.Matcher;
import java.util.regex.Pattern;

/** The document's face and no other member, and those rules of LANGUAGE.md that can be read off the text. */
public final class FaceTest {
    private static final Check CHECK = new Check("FaceTest");
    private static final String[] FACE = {"int letter(int)", "int yard()", "int child(int,int)", "int go(int,int)",
        "int touch(int)", "int law(int)", "int far(int,int)", "int seconds(int)", "int stand(int)",
        "int where(int,int)", "int over()", "long mean(int,int)", "int frees(int)", "int never(int)",
        "int mayFree(int)", "int worth(int)", "int hunt(int,int,int)", "int enough()", "int change(int,int,int)",
        "int longest()", "int owes(int,int)", "int debt(int)", "int why(int,int)", "int row(int)", "int fits(int)",
        "int judge()", "int lots(int,int)", "int image()", "int on()", "int count(int)"};
    private static final String[] FORBIDDEN = {"throw", "throws", "try", "catch", "finally", "synchronized", "assert",
        "import", "package", "Object", "System\\.out", "Integer\\.MAX_VALUE", "\\w+Exact", "->", "::", "null",
        "volatile", "native", "protected", "Thread", "random"};

    public static void main(String[] args) throws IOException {
        face();
        members();
        text();
        CHECK.end();
    }

    private static String signature(Method m) {
        StringBuilder s = new StringBuilder(m.getReturnType().getName()).append(' ').append(m.getName()).append('(');
        for (Class<?> type : m.getParameterTypes()) {
            s.append(s.charAt(s.length() - 1) == '(' ? "" : ",").append(type.getName());
        }
        return s.append(')').toString();
    }

    private static void face() {
        Class<?> c = TouchedAndStands.class;
        CHECK.holds("public final", Modifier.isPublic(c.getModifiers()) && Modifier.isFinal(c.getModifiers()));
        Constructor<?>[] made = c.getDeclaredConstructors();
        CHECK.holds("one constructor without arguments", made.length == 1 && made[0].getParameterCount() == 0
            && Modifier.isPublic(made[0].getModifiers()));
        Set<String> due = new TreeSet<>(Arrays.asList(FACE));
        Set<String> is = new TreeSet<>();
        for (Method m : c.getDeclaredMethods()) {
            if (Modifier.isPublic(m.getModifiers()) && !Modifier.isStatic(m.getModifiers())) {
                is.add(signature(m));
            }
        }
        CHECK.holds("the face is " + is, is.equals(due));
    }

    private static void members() {
        Set<String> open = new TreeSet<>();
        for (String s : FACE) {
            open.add(s.substring(s.indexOf(' ') + 1, s.indexOf('(')));
        }
        for (Method m : TouchedAndStands.class.getDeclaredMethods()) {
            boolean isPublic = Modifier.isPublic(m.getModifiers());
            CHECK.holds(m + " is public or private", isPublic || Modifier.isPrivate(m.getModifiers()));
            CHECK.holds(m + " bears no public one's name", isPublic || !open.contains(m.getName()));
        }
        for (Field f : TouchedAndStands.class.getDeclaredFields()) {
            CHECK.holds(f + " is private", Modifier.isPrivate(f.getModifiers()));
        }
        for (Class<?> inside : TouchedAndStands.class.getDeclaredClasses()) {
            CHECK.holds(inside + " is static", Modifier.isStatic(inside.getModifiers()));
            CHECK.holds(inside + " is not open", !Modifier.isPublic(inside.getModifiers()));
            int fields = 0;
            for (Field f : inside.getDeclaredFields()) {
                boolean isStatic = Modifier.isStatic(f.getModifiers());
                CHECK.holds(f + ": a static one is final", !isStatic || Modifier.isFinal(f.getModifiers()));
                fields += isStatic ? 0 : 1;
            }
            CHECK.holds(inside + " has few fields", fields <= 20);
            for (Method m : inside.getDeclaredMethods()) {
                CHECK.holds(m + " takes few", m.getParameterCount() <= 7);
                CHECK.holds(m + " bears no public one's name", !open.contains(m.getName()));
            }
        }
    }

    private static void text() throws IOException {
        String source = Files.readString(Path.of(System.getProperty("source", "src/main/java/TouchedAndStands.java")));
        String code = source.replaceAll("(?s)/\\*.*?\\*/", "").replaceAll("//[^\n]*", "");
        for (String word : FORBIDDEN) {
            String whole = Character.isLetter(word.charAt(0)) ? "\\b" + word + "\\b" : word;
            Matcher m = Pattern.compile(whole).matcher(code);
            CHECK.holds("no " + word, !m.find());
        }
        CHECK.holds("signs 1 to 127", source.chars().allMatch(c -> c > 0 && c < 128));
        int since = 0;
        int longest = 0;
        String[] lines = source.split("\n");
        for (int i = 0; i < lines.length; i++) {
            if (lines[i].matches(" {4}( {4})?(public|private|static|boolean|int|void|long)\\b.*\\) \\{")) {
                since = i;
            } else if (lines[i].matches(" {4}( {4})?\\}")) {
                longest = Math.max(longest, i - since + 1);
                since = i;
            }
        }
        CHECK.holds("methods stay short: " + longest, longest <= 60);
    }
}
