import java.io.IOException;
import java.lang.reflect.Constructor;
import java.lang.reflect.Field;
import java.lang.reflect.Method;
import java.lang.reflect.Modifier;
import java.nio.file.Files;
import java.nio.file.Path;
import java.util.Arrays;
import java.util.Set;
import java.util.TreeSet;
import java.util.regex.Matcher;
import java.util.regex.Pattern;

/** What of ../shared/LANGUAGE.md's rules and of the document's face can be seen from the source and the class. */
public final class LanguageTest {
    private static final int MOST_CLASSES = 14;
    private static final int MOST_FIELDS = 24;
    private static final int MOST_LINES = 70;
    private static int wrong = 0;

    private static final String FACE = "about(int):int answers(int,int,int,int):int atOnce(int,int,int):int back(int):int "
        + "bound(int):int clerk(int):int could(int,int,int):int covers(int):int doubts(int):int end(int):int evenest(int):int "
        + "fault(int):int feed(int,int,int,int,int):int fewest(int,int,int):int heaps(int,int):int image(int):int "
        + "judged(int,int,int,int,int):int ladder(boolean,int):int later(int):int led(int,int,int):int left(int,int):int "
        + "lies(int):int next(int,int,int):int odds(int,int,int,int):int place(int,boolean,int):int sits(int,int,int):int "
        + "stand(int,boolean,int):int stones(int,boolean):int street():int struck(int):int surely(int,int,int):int "
        + "swapped(int,int):int told(int,int,int):int total(int,int,int,int):int trusty(int,int,int):int twins(int,int):int "
        + "untell(int):boolean weigh(int,int):int weighing(int,int):int weight(int,boolean,int):int weights(int):int wet():int";

    private static void check(int rule, boolean right, String what) {
        if (!right) {
            wrong++;
            System.out.println("LanguageTest: rule " + rule + ": " + what);
        }
    }

    /** Blanks in place of comments and of what stands in texts and signs. */
    private static String bare(String source) {
        StringBuilder s = new StringBuilder(source);
        Matcher m = quoted(source);
        while (m.find()) {
            boolean text = "\"'".indexOf(source.charAt(m.start())) >= 0;
            for (int i = m.start() + (text ? 1 : 0); i < m.end() - (text ? 1 : 0); i++) {
                if (s.charAt(i) != '\n') {
                    s.setCharAt(i, ' ');
                }
            }
        }
        return s.toString();
    }

    private static Matcher quoted(String source) {
        String pattern = "/\\*.*?\\*/|//[^\\n]*|\"(?:\\\\.|[^\"\\\\])*\"|'(?:\\\\.|[^'\\\\])+'";
        return Pattern.compile(pattern, Pattern.DOTALL).matcher(source);
    }

    private static void forbid(int rule, String bare, String pattern) {
        Matcher m = Pattern.compile(pattern).matcher(bare);
        while (m.find()) {
            long line = bare.substring(0, m.start()).chars().filter(c -> c == '\n').count() + 1;
            check(rule, false, "line " + line + " has " + m.group());
        }
    }

    private static void checkSource(String source) {
        String bare = bare(source);
        forbid(0, bare, "\\bpackage\\b|\\bimport (?!java\\.util\\.)");
        forbid(2, bare, "(?m)^(?!.*\\b(case|default)\\b).*->|::");
        forbid(4, bare, "\\w+Exact\\b|\\bSystem\\.(?!arraycopy)|\\bRandom\\b");
        forbid(5, bare, "\\bstatic\\s*\\{");
        forbid(6, bare, "\\b(throw|throws|try|catch|finally|synchronized|assert|hashCode|volatile|native)\\b");
        forbid(9, bare, "\\bwhile \\(true\\)|\\bfor \\(;;\\)");
        forbid(10, bare, "\"\\s*\\+|\\+\\s*\"");
        forbid(13, bare, "\\b(Thread|Runtime|Process|nanoTime|currentTimeMillis)\\b");
        Matcher texts = quoted(source);
        while (texts.find()) {
            boolean comment = source.charAt(texts.start()) == '/';
            check(4, comment || texts.group().chars().allMatch(c -> c > 0 && c < 128), "a constant " + texts.group());
        }
        checkLengths(bare);
    }

    private static void checkLengths(String bare) {
        int start = -1;
        String[] lines = bare.split("\n");
        for (int i = 0; i < lines.length; i++) {
            if (lines[i].matches(" {4}( {4})?\\S.*\\) \\{")) {
                start = i;
            } else if (lines[i].matches(" {4}( {4})?\\}") && start >= 0) {
                check(11, i - start < MOST_LINES, "a long method ends in line " + (i + 1));
                start = -1;
            }
        }
    }

    private static String signature(Method m) {
        StringBuilder s = new StringBuilder(m.getName()).append('(');
        for (Class<?> c : m.getParameterTypes()) {
            s.append(s.charAt(s.length() - 1) == '(' ? "" : ",").append(c.getSimpleName());
        }
        return s.append("):").append(m.getReturnType().getSimpleName()).toString();
    }

    private static void checkFace() throws ReflectiveOperationException {
        Set<String> face = new TreeSet<>();
        for (Method m : HeavierRow.class.getDeclaredMethods()) {
            if (!Modifier.isPrivate(m.getModifiers()) && !m.isSynthetic()) {
                face.add(signature(m));
                boolean own = Modifier.isPublic(m.getModifiers()) && !Modifier.isStatic(m.getModifiers());
                check(1, own, m.getName() + " is not a public method of the object");
            }
        }
        check(1, face.equals(new TreeSet<>(Arrays.asList(FACE.split(" ")))), "the face is " + face);
        int outside = HeavierRow.class.getModifiers() & (Modifier.PUBLIC | Modifier.FINAL);
        check(1, outside == (Modifier.PUBLIC | Modifier.FINAL), "the class is not public and final");
        int constructors = 0;
        for (Constructor<?> c : HeavierRow.class.getDeclaredConstructors()) {
            constructors += Modifier.isPrivate(c.getModifiers()) || c.isSynthetic() ? 0 : 1;
        }
        check(1, constructors == 1 && HeavierRow.class.getConstructors().length == 1, "one public constructor");
        for (Field f : HeavierRow.class.getDeclaredFields()) {
            boolean inside = Modifier.isPrivate(f.getModifiers()) || f.isSynthetic();
            check(1, f.getName().equals("NONE") != inside, "field " + f.getName());
        }
        int constant = Modifier.PUBLIC | Modifier.STATIC | Modifier.FINAL;
        check(1, HeavierRow.class.getField("NONE").getModifiers() == constant, "NONE is not a constant");
        check(1, HeavierRow.class.getField("NONE").getInt(null) == -1, "NONE is not -1");
    }

    private static void checkClass(Class<?> c, Set<String> publicNames) {
        int fields = 0;
        for (Field f : c.getDeclaredFields()) {
            boolean fixed = Modifier.isStatic(f.getModifiers());
            fields += fixed ? 0 : 1;
            check(5, !fixed || Modifier.isFinal(f.getModifiers()), c.getName() + "." + f.getName() + " is static, not final");
        }
        check(11, fields <= MOST_FIELDS, c.getName() + " has " + fields + " fields");
        for (Method m : c.getDeclaredMethods()) {
            check(11, m.getParameterCount() <= 7, m.getName() + " has many parameters");
            boolean hidden = Modifier.isPrivate(m.getModifiers()) && publicNames.contains(m.getName());
            check(1, !hidden, c.getName() + "." + m.getName() + " is private with a public method's name");
        }
    }

    private static void checkClasses() {
        Set<String> publicNames = new TreeSet<>();
        for (String s : FACE.split(" ")) {
            publicNames.add(s.substring(0, s.indexOf('(')));
        }
        Class<?>[] inside = HeavierRow.class.getDeclaredClasses();
        check(11, inside.length + 1 <= MOST_CLASSES, "too many classes: " + inside.length);
        checkClass(HeavierRow.class, publicNames);
        for (Class<?> c : inside) {
            check(1, Modifier.isStatic(c.getModifiers()), c.getName() + " is not static");
            check(1, (c.getModifiers() & (Modifier.PUBLIC | Modifier.PROTECTED)) == 0, c.getName() + " is seen outside");
            checkClass(c, publicNames);
        }
    }

    public static void main(String[] args) throws IOException, ReflectiveOperationException {
        checkSource(Files.readString(Path.of("src/main/java/HeavierRow.java")));
        checkFace();
        checkClasses();
        System.out.println("LanguageTest: " + wrong + " wrong");
        if (wrong != 0) {
            System.exit(1);
        }
    }
}
