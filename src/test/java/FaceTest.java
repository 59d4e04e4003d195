import java.io.IOException;
import java.lang.reflect.Constructor;
import java.lang.reflect.Field;
import java.lang.reflect.Method;
import java.lang.reflect.Modifier;
import java.nio.file.Files;
import java.nio.file.Path;
import java.util.ArrayList;
import java.util.Arrays;
import java.util.List;
import java.util.Map;
import java.util.Set;
import java.util.TreeMap;
import java.util.TreeSet;
import java.util.regex.Matcher;
import java.util.regex.Pattern;

/** The document's face and no other member, and those rules of LANGUAGE.md that can be read off the text. */
public final class FaceTest {
    private static final Check CHECK = new Check("FaceTest");
    private static final String[] FACE = {"int letter(int)", "int yard()", "int child(int,int)", "int go(int,int)",
        "int touch(int)", "int law(int)", "int far(int,int)", "int seconds(int)", "int stand(int)",
        "int where(int,int)", "int over()", "long mean(int,int)", "int frees(int)", "int never(int)",
        "int mayFree(int)", "int worth(int)", "int hunt(int,int,int)", "int enough()", "int change(int,int,int)",
        "int longest()", "int owes(int,int)", "int debt(int)", "int why(int,int)", "int row(int)", "int fits(int)",
        "int judge()", "int lots(int,int)", "int image()", "int on()", "int count(int)"};
    private static final String[] FORBIDDEN = {"throw", "throws", "try", "catch", "finally", "synchronized", "assert",
        "import", "package", "Object", "System\\.out", "Integer\\.MAX_VALUE", "\\w+Exact", "->", "::", "null",
        "volatile", "native", "protected", "Thread", "random"};

    public static void main(String[] args) throws IOException {
        face();
        members();
        String source = Files.readString(Path.of(System.getProperty("source", "src/main/java/TouchedAndStands.java")));
        String code = source.replaceAll("(?s)/\\*.*?\\*/", "").replaceAll("//[^\n]*", "");
        words(source, code);
        library(code);
        shortMethods(code.split("\n"));
        callsAreNotDeep(code.split("\n"));
        CHECK.end();
    }

    private static String signature(Method m) {
        StringBuilder s = new StringBuilder(m.getReturnType().getName()).append(' ').append(m.getName()).append('(');
        for (Class<?> type : m.getParameterTypes()) {
            s.append(s.charAt(s.length() - 1) == '(' ? "" : ",").append(type.getName());
        }
        return s.append(')').toString();
    }

    private static void face() {
        Class<?> c = TouchedAndStands.class;
        CHECK.holds("public final", Modifier.isPublic(c.getModifiers()) && Modifier.isFinal(c.getModifiers()));
        Constructor<?>[] made = c.getDeclaredConstructors();
        CHECK.holds("one constructor without arguments", made.length == 1 && made[0].getParameterCount() == 0
            && Modifier.isPublic(made[0].getModifiers()));
        Set<String> due = new TreeSet<>(Arrays.asList(FACE));
        Set<String> is = new TreeSet<>();
        for (Method m : c.getDeclaredMethods()) {
            if (Modifier.isPublic(m.getModifiers())) {
                is.add((Modifier.isStatic(m.getModifiers()) ? "static " : "") + signature(m));
            }
        }
        CHECK.holds("the face is " + is, is.equals(due));
    }

    private static void members() {
        Set<String> open = new TreeSet<>();
        for (String s : FACE) {
            open.add(s.substring(s.indexOf(' ') + 1, s.indexOf('(')));
        }
        for (Method m : TouchedAndStands.class.getDeclaredMethods()) {
            boolean isPublic = Modifier.isPublic(m.getModifiers());
            CHECK.holds(m + " is public or private", isPublic || Modifier.isPrivate(m.getModifiers()));
            CHECK.holds(m + " bears no public one's name", isPublic || !open.contains(m.getName()));
        }
        for (Field f : TouchedAndStands.class.getDeclaredFields()) {
            CHECK.holds(f + " is private", Modifier.isPrivate(f.getModifiers()));
            CHECK.holds(f + ": a static one is final", !Modifier.isStatic(f.getModifiers())
                || Modifier.isFinal(f.getModifiers()));
        }
        for (Class<?> inside : TouchedAndStands.class.getDeclaredClasses()) {
            CHECK.holds(inside + " is static", Modifier.isStatic(inside.getModifiers()));
            CHECK.holds(inside + " is not open", !Modifier.isPublic(inside.getModifiers()));
            int fields = 0;
            for (Field f : inside.getDeclaredFields()) {
                boolean isStatic = Modifier.isStatic(f.getModifiers());
                CHECK.holds(f + ": a static one is final", !isStatic || Modifier.isFinal(f.getModifiers()));
                fields += isStatic ? 0 : 1;
            }
            CHECK.holds(inside + " has few fields", fields <= 20);
            for (Method m : inside.getDeclaredMethods()) {
                CHECK.holds(m + " takes few", m.getParameterCount() <= 7);
                CHECK.holds(m + " bears no public one's name", !open.contains(m.getName()));
            }
        }
    }

    private static void words(String source, String code) {
        for (String word : FORBIDDEN) {
            String whole = Character.isLetter(word.charAt(0)) ? "\\b" + word + "\\b" : word;
            Matcher m = Pattern.compile(whole).matcher(code);
            CHECK.holds("no " + word, !m.find());
        }
        CHECK.holds("signs 1 to 127", source.chars().allMatch(c -> c > 0 && c < 128));
        for (String line : code.split("\n")) {
            if (line.matches(".*\\bnew\\b.*")) {
                CHECK.holds("objects are made in fields alone: " + line, line.matches(" +private final .* = new .*;"));
            }
        }
    }

    /** Rule 4: of the library just what is listed here; all other calls are of methods of the file. */
    private static void library(String code) {
        Set<String> listed = Set.of("Math.max", "Math.min", "Integer.bitCount", "System.arraycopy");
        Matcher statics = Pattern.compile("\\b(Math|Integer|Long|System|Arrays|Character|String)\\.(\\w+)").matcher(code);
        while (statics.find()) {
            CHECK.holds("the library's " + statics.group(), listed.contains(statics.group()));
        }
        Set<String> own = new TreeSet<>(Set.of("length", "charAt", "indexOf", "max", "min", "bitCount", "arraycopy"));
        Matcher declared = Pattern.compile("(?m)^ +(?:public |private |static )*(?:int|long|boolean|void|String) (\\w+)\\(")
            .matcher(code);
        while (declared.find()) {
            own.add(declared.group(1));
        }
        Matcher called = Pattern.compile("\\.(\\w+)\\(").matcher(code);
        while (called.find()) {
            CHECK.holds("a call of " + called.group(1), own.contains(called.group(1)));
        }
    }

    /** The lines of each method by its name, from head to closing brace. */
    private static Map<String, List<String>> methods(String[] lines) {
        Map<String, List<String>> all = new TreeMap<>();
        Pattern head = Pattern.compile("^( +)(?:public |private |static )*(?:int|long|boolean|void|String) (\\w+)\\(.*\\{$");
        for (int i = 0; i < lines.length; i++) {
            Matcher m = head.matcher(lines[i]);
            if (m.matches()) {
                List<String> body = new ArrayList<>();
                int end = i + 1;
                while (!lines[end].equals(m.group(1) + "}")) {
                    body.add(lines[end]);
                    end++;
                }
                CHECK.holds("one method named " + m.group(2), all.put(m.group(2), body) == null);
                i = end;
            }
        }
        return all;
    }

    private static void shortMethods(String[] lines) {
        Map<String, List<String>> all = methods(lines);
        CHECK.holds("methods were found: " + all.size(), all.size() > 80);
        for (Map.Entry<String, List<String>> m : all.entrySet()) {
            CHECK.holds(m.getKey() + " is short", m.getValue().size() <= 58);
        }
    }

    /** Rules 8 and 11: no recursion, and calls at most eight deep. */
    private static void callsAreNotDeep(String[] lines) {
        Map<String, List<String>> all = methods(lines);
        for (String name : all.keySet()) {
            int deep = deep(name, all, 0);
            CHECK.holds(name + " goes " + deep + " deep", deep <= 8);
        }
    }

    private static int deep(String name, Map<String, List<String>> all, int above) {
        if (above > 20) {
            return 100;
        }
        int most = 0;
        for (String line : all.get(name)) {
            Matcher called = Pattern.compile("\\b(\\w+)\\(").matcher(line);
            while (called.find()) {
                if (all.containsKey(called.group(1))) {
                    most = Math.max(most, deep(called.group(1), all, above + 1));
                }
            }
        }
        return most + 1;
    }
}
