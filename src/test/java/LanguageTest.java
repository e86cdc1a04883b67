import java.io.IOException;
import java.lang.reflect.Field;
import java.lang.reflect.Method;
import java.lang.reflect.Modifier;
import java.nio.file.Files;
import java.nio.file.Path;
import java.util.Arrays;
import java.util.Set;
import java.util.TreeSet;
import java.util.regex.Matcher;
import java.util.regex.Pattern;

/** What of ../shared/LANGUAGE.md and of the document's face can be seen from the source and the class. */
public final class LanguageTest {
    private static int wrong = 0;

    private static final String FACE = "about(int):int answers(int,int,int,int):int atOnce(int,int,int):int back(int):int "
        + "bound(int):int clerk(int):int could(int,int,int):int covers(int):int doubts(int):int end(int):int evenest(int):int "
        + "fault(int):int feed(int,int,int,int,int):int fewest(int,int,int):int heaps(int,int):int image(int):int "
        + "judged(int,int,int,int,int):int ladder(boolean,int):int later(int):int led(int,int,int):int left(int,int):int "
        + "lies(int):int next(int,int,int):int odds(int,int,int,int):int place(int,boolean,int):int sits(int,int,int):int "
        + "stand(int,boolean,int):int stones(int,boolean):int street():int struck(int):int surely(int,int,int):int "
        + "swapped(int,int):int told(int,int,int):int total(int,int,int,int):int trusty(int,int,int):int twins(int,int):int "
        + "untell(int):boolean weigh(int,int):int weighing(int,int):int weight(int,boolean,int):int weights(int):int wet():int";

    private static void check(boolean right, String what) {
        if (!right) {
            wrong++;
            System.out.println("LanguageTest: " + what);
        }
    }

    /** Blanks in place of comments and of what stands in texts and signs. */
    private static String bare(String source) {
        StringBuilder s = new StringBuilder(source);
        Matcher m = Pattern.compile("/\\*.*?\\*/|//[^\\n]*|\"(?:\\\\.|[^\"\\\\])*\"|'(?:\\\\.|[^'\\\\])+'", Pattern.DOTALL).matcher(source);
        while (m.find()) {
            boolean quoted = "\"'".indexOf(source.charAt(m.start())) >= 0;
            for (int i = m.start() + (quoted ? 1 : 0); i < m.end() - (quoted ? 1 : 0); i++) {
                if (s.charAt(i) != '\n') {
                    s.setCharAt(i, ' ');
                }
            }
        }
        return s.toString();
    }

    private static void forbid(String bare, String pattern) {
        Matcher m = Pattern.compile(pattern).matcher(bare);
        while (m.find()) {
            long line = bare.substring(0, m.start()).chars().filter(c -> c == '\n').count() + 1;
            check(false, "line " + line + " has " + m.group());
        }
    }

    private static void checkSource(String source) {
        String bare = bare(source);
        for (String word : ("throw throws try catch finally synchronized assert import package native volatile transient "
                + "instanceof equals hashCode toString Thread System Object var goto strictfp yield").split(" ")) {
            forbid(bare, "\\b" + word + "\\b");
        }
        forbid(bare, "->|::|\\bstatic\\s*\\{|\"\\s*\\+|\\+\\s*\"|@\\w+|\\w+Exact\\b|\\bwhile \\(true\\)");
        for (int i = 0; i < source.length(); i++) {
            check(source.charAt(i) < 127, "a sign above 126 at " + i);
        }
        checkNews(bare);
        checkLengths(bare);
    }

    /** Nothing is made but with the object: new stands in lines of fields alone. */
    private static void checkNews(String bare) {
        for (String line : bare.split("\n")) {
            if (line.contains("new ")) {
                check(line.matches(" {4,8}(private )?(final )?[A-Z]?\\w+(\\[\\])? \\w+ = (new|\\{new) .*"), "makes an object in: " + line.trim());
            }
        }
    }

    private static void checkLengths(String bare) {
        int start = -1;
        String[] lines = bare.split("\n");
        for (int i = 0; i < lines.length; i++) {
            if (lines[i].matches(" {4}( {4})?\\S.*\\) \\{")) {
                start = i;
            } else if (lines[i].matches(" {4}( {4})?\\}") && start >= 0) {
                check(i - start < 60, "a long method ends in line " + (i + 1));
                start = -1;
            }
            check(lines[i].length() <= 125, "line " + (i + 1) + " is long");
        }
    }

    private static String signature(Method m) {
        StringBuilder s = new StringBuilder(m.getName()).append('(');
        for (Class<?> c : m.getParameterTypes()) {
            s.append(s.charAt(s.length() - 1) == '(' ? "" : ",").append(c.getSimpleName());
        }
        return s.append("):").append(m.getReturnType().getSimpleName()).toString();
    }

    private static void checkFace() {
        Set<String> face = new TreeSet<>();
        for (Method m : HeavierRow.class.getDeclaredMethods()) {
            if (!Modifier.isPrivate(m.getModifiers())) {
                face.add(signature(m));
                check(m.getModifiers() == Modifier.PUBLIC, m.getName() + " is not just public");
            }
        }
        check(face.equals(new TreeSet<>(Arrays.asList(FACE.split(" ")))), "the face is " + face);
        check(HeavierRow.class.getModifiers() == (Modifier.PUBLIC | Modifier.FINAL), "the class is not public and final");
        check(HeavierRow.class.getConstructors().length == 1, "one public constructor");
        for (Field f : HeavierRow.class.getDeclaredFields()) {
            check(f.getName().equals("NONE") == !Modifier.isPrivate(f.getModifiers()), "field " + f.getName());
        }
    }

    private static void checkClasses() {
        Set<String> publicNames = new TreeSet<>();
        for (String s : FACE.split(" ")) {
            publicNames.add(s.substring(0, s.indexOf('(')));
        }
        Class<?>[] inside = HeavierRow.class.getDeclaredClasses();
        check(inside.length <= 12, "too many classes: " + inside.length);
        for (int i = -1; i < inside.length; i++) {
            Class<?> c = i < 0 ? HeavierRow.class : inside[i];
            int fields = 0;
            for (Field f : c.getDeclaredFields()) {
                boolean fixed = Modifier.isStatic(f.getModifiers());
                fields += fixed ? 0 : 1;
                check(!fixed || Modifier.isFinal(f.getModifiers()), c.getName() + "." + f.getName() + " is static, not final");
            }
            check(fields <= 20, c.getName() + " has " + fields + " fields");
            check(i < 0 || Modifier.isStatic(c.getModifiers()) && Modifier.isPrivate(c.getModifiers()), c.getName() + " is not private static");
            for (Method m : c.getDeclaredMethods()) {
                check(m.getParameterCount() <= 7, m.getName() + " has many parameters");
                boolean own = i < 0 && Modifier.isPublic(m.getModifiers());
                check(own || !publicNames.contains(m.getName()), c.getName() + "." + m.getName() + " has a public method's name");
            }
        }
    }

    public static void main(String[] args) throws IOException {
        checkSource(Files.readString(Path.of("src/main/java/HeavierRow.java")));
        checkFace();
        checkClasses();
        System.out.println("LanguageTest: " + wrong + " wrong");
        if (wrong != 0) {
            System.exit(1);
        }
    }
}
