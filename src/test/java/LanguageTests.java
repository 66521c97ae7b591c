import java.lang.management.ManagementFactory;
import java.lang.reflect.Constructor;
import java.lang.reflect.Field;
import java.lang.reflect.Method;
import java.lang.reflect.Modifier;
import java.nio.file.Files;
import java.nio.file.Path;
import java.util.List;
import java.util.Set;
import java.util.TreeSet;
import java.util.regex.Matcher;
import java.util.regex.Pattern;

/** What of ../shared/LANGUAGE.md a test can see: the face, the words of the source, what calls make. */
final class LanguageTests {
    private static final String[] FACE = {
        "int begin()", "int fact(int,int)", "int rule(int,int,int,int,int)", "int off(int,int)", "int strength(int,int)",
        "int over(int,int,int)", "int feed(int)", "int reads()", "int ruleOf(int,int)", "int rulesFor(int)",
        "int count(int)", "int tag(int,int)", "int tagged(int,int)", "int state(int)", "int sides(int,int)",
        "int proof(int,int,int)", "int prints(int,int)", "int paper(int)", "int would(int,int,int)", "int key(int)",
        "int hinges(int,int)", "int least(int,int)", "int lots(int,int,int,int)", "int judge(int,int,int)",
        "int list(int,int)", "int set(int,int,int)", "long get(int,int)", "int undo()", "int redo()", "int image()",
        "int back()"};
    private static final String[] FORBIDDEN = {
        "(?m)^package\\b", "import (?!java\\.util\\.Arrays;)", "->", "::", "\\bsynchronized\\b", "\\bassert\\b",
        "\\btry\\b", "\\bcatch\\b", "\\bfinally\\b", "\\bthrow\\b", "\\bString\\b", "\\bnull\\b", "\\bMath\\b",
        "\\bSystem\\.(?!arraycopy\\()", "\\bArrays\\.(?!fill\\()", "\\bInteger\\.(?!bitCount\\()", "\\bprotected\\b",
        "\\binstanceof\\b", "[^\\x00-\\x7f]"};
    private static final int LONGEST_METHOD = 60, MOST_CLASSES = 12, MOST_FIELDS = 20, MOST_PARAMETERS = 7;

    private final Check check;

    private LanguageTests(Check check) {
        this.check = check;
    }

    static void run(Check check, String source) throws Exception {
        LanguageTests tests = new LanguageTests(check);
        tests.face();
        tests.classes();
        tests.words(Files.readString(Path.of(source)));
        tests.room();
    }

    private void face() {
        Set<String> publicOnes = new TreeSet<>();
        Set<String> names = new TreeSet<>();
        for (Method m : RuleCourt.class.getDeclaredMethods()) {
            if (Modifier.isPublic(m.getModifiers())) {
                names.add(m.getName());
                publicOnes.add(told(m));
            }
        }
        check.same("face", publicOnes.toString(), new TreeSet<>(List.of(FACE)).toString());
        for (Class<?> c : classesInside()) {
            for (Method m : c.getDeclaredMethods()) {
                check.same("a public one's name: " + c + m.getName(), names.contains(m.getName()) ? 1 : 0, 0);
            }
        }
        for (Method m : RuleCourt.class.getDeclaredMethods()) {
            boolean isOpen = Modifier.isPublic(m.getModifiers());
            check.same("seen or private: " + m, isOpen || Modifier.isPrivate(m.getModifiers()) ? 1 : 0, 1);
            check.same("a public one's name: " + m, !isOpen && names.contains(m.getName()) ? 1 : 0, 0);
        }
        Set<String> constants = new TreeSet<>();
        for (Field f : RuleCourt.class.getDeclaredFields()) {
            if (!Modifier.isPrivate(f.getModifiers())) {
                constants.add(f.getName());
            }
        }
        check.same("constants", constants.toString(), "[BAD, FULL, NO, NOT, STATE]");
        check.same("final", Modifier.isFinal(RuleCourt.class.getModifiers()) ? 1 : 0, 1);
        check.same("constructors", RuleCourt.class.getConstructors().length, 1);
    }

    private static String told(Method m) {
        StringBuilder text = new StringBuilder(m.getReturnType().getName() + " " + m.getName() + "(");
        for (Class<?> p : m.getParameterTypes()) {
            text.append(text.charAt(text.length() - 1) == '(' ? "" : ",").append(p.getName());
        }
        return text.append(')').toString();
    }

    private static Class<?>[] classesInside() {
        return RuleCourt.class.getDeclaredClasses();
    }

    private void classes() {
        check.same("few classes", classesInside().length + 1 <= MOST_CLASSES ? 1 : 0, 1);
        for (Class<?> c : classesInside()) {
            check.same("static: " + c, Modifier.isStatic(c.getModifiers()) ? 1 : 0, 1);
            check.same("not public: " + c, Modifier.isPublic(c.getModifiers()) ? 1 : 0, 0);
            fewFields(c);
            fewParameters(c);
        }
        fewFields(RuleCourt.class);
        fewParameters(RuleCourt.class);
    }

    private void fewFields(Class<?> c) {
        int fields = 0;
        for (Field f : c.getDeclaredFields()) {
            if (Modifier.isStatic(f.getModifiers())) {
                check.same("static and final: " + f, Modifier.isFinal(f.getModifiers()) ? 1 : 0, 1);
            } else {
                fields++;
            }
        }
        check.same("few fields: " + c, fields <= MOST_FIELDS ? 1 : 0, 1);
    }

    private void fewParameters(Class<?> c) {
        for (Method m : c.getDeclaredMethods()) {
            check.same("parameters: " + m, m.getParameterCount() <= MOST_PARAMETERS ? 1 : 0, 1);
        }
        for (Constructor<?> k : c.getDeclaredConstructors()) {
            check.same("parameters: " + k, k.getParameterCount() <= MOST_PARAMETERS ? 1 : 0, 1);
        }
    }

    private void words(String source) {
        String code = source.replaceAll("(?s)/\\*.*?\\*/", "").replaceAll("//[^\n]*", "");
        for (String pattern : FORBIDDEN) {
            Matcher m = Pattern.compile(pattern).matcher(code);
            check.same("no " + pattern, m.find() ? 1 : 0, 0);
        }
        int begins = 0;
        String[] lines = source.split("\n");
        for (int i = 0; i < lines.length; i++) {
            if (lines[i].matches("(    |        )[a-z].*\\) \\{")) {
                begins = i;
            }
            if (lines[i].matches("    \\}|        \\}")) {
                check.same("a method's lines at " + begins, i - begins < LONGEST_METHOD ? 1 : 0, 1);
                begins = i;
            }
        }
    }

    /** The dearest calls make nothing: rows are made once, with the object. */
    private void room() {
        com.sun.management.ThreadMXBean threads = (com.sun.management.ThreadMXBean) ManagementFactory.getThreadMXBean();
        RuleCourt x = Told.court("!a;a=>b?c;=>~b;b->c;0>1;=>d*3;~d~>d");
        dearCalls(x);
        long before = threads.getThreadAllocatedBytes(Thread.currentThread().getId());
        dearCalls(x);
        long made = threads.getThreadAllocatedBytes(Thread.currentThread().getId()) - before;
        check.same("bytes made by calls: " + made, made < 2000 ? 1 : 0, 1);
    }

    private static void dearCalls(RuleCourt x) {
        for (int i = 0; i < 20; i++) {
            x.key(i);
            x.hinges(i, 2);
            x.least(0, i);
            x.lots(i, 2, 12, i);
            x.proof(i, 3, -1);
            x.prints(i, 3);
            x.prints(-1, 0);
            x.fact(i, i & 1);
            x.undo();
            x.redo();
            x.image();
            x.list(0, 20);
            x.judge(0, 0, 1);
            x.feed('!');
            x.feed('j');
            x.reads();
        }
    }
}
