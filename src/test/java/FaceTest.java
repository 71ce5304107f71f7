import java.lang.reflect.Constructor;
import java.lang.reflect.Member;
import java.lang.reflect.Method;
import java.lang.reflect.Modifier;
import java.nio.file.Files;
import java.nio.file.Path;
import java.util.Set;
import java.util.TreeSet;

/** The public face of the document, no more and no less, and what a look at the source shows of LANGUAGE.md. */
public final class FaceTest {
    private static final String[] FACE = {
        "int addRule(int)", "int addCondition(int,int,int,int)", "int setTest(int,int,int,int,int)",
        "int addTold(int,boolean,int)", "int setValue(int,int,int,int,int)", "int addRetract(int,int)",
        "int switchOn(int)", "int switchOff(int)", "int state(int,int,int,int)", "int takeBack(int)",
        "int retract(int)", "int fire(int)", "int rules()", "boolean isOn(int)", "boolean isSound(int)",
        "int urgency(int)", "int conditions(int)", "int actions(int)", "int candidates(int,int)",
        "int firings(int)", "int facts()", "int next()", "boolean isThere(int)", "int find(int,int,int,int)",
        "int kindOf(int)", "int valueOf(int,int)", "boolean isStated(int)", "int supports(int)",
        "int because(int)", "int distance(int)", "int uses(int)", "int matches(int)", "int factOf(int,int,int)",
        "boolean hasFired(int,int)", "int variableOf(int,int,int)", "int agenda()", "int nextRule()",
        "int nextFact(int)", "int fired()", "double meanSupports()", "int factsBehind(int)",
        "int firingsToRest(int)", "int wouldGo(int)", "boolean wouldHold(int,int,int,int,int)", "long digest()"};

    public static void main(String[] args) throws Exception {
        Check check = new Check();
        face(check);
        source(check);
        check.end();
    }

    private static void face(Check check) {
        check.same("modifiers", RuleForge.class.getModifiers(), Modifier.PUBLIC | Modifier.FINAL);
        Set<String> due = new TreeSet<>(Set.of(FACE));
        Set<String> names = new TreeSet<>();
        for (Method m : RuleForge.class.getDeclaredMethods()) {
            if (Modifier.isPublic(m.getModifiers())) {
                names.add(m.getName());
                check.isSo(sign(m) + " is of the face", due.remove(sign(m)));
                check.isNotSo(sign(m) + " is static", Modifier.isStatic(m.getModifiers()));
            }
        }
        check.same("methods that are lacking: " + due, due.size(), 0);
        for (Class<?> c : RuleForge.class.getDeclaredClasses()) {
            check.isSo(c + " is static", Modifier.isStatic(c.getModifiers()) && !Modifier.isPublic(c.getModifiers()));
            privateOnes(check, names, c.getDeclaredMethods());
        }
        privateOnes(check, names, RuleForge.class.getDeclaredMethods());
        check.same("constructors", RuleForge.class.getDeclaredConstructors().length, 1);
        for (Constructor<?> c : RuleForge.class.getDeclaredConstructors()) {
            check.isSo("the constructor is public, without arguments",
                Modifier.isPublic(c.getModifiers()) && c.getParameterCount() == 0);
        }
        for (Member f : RuleForge.class.getDeclaredFields()) {
            check.isSo(f.getName() + " is private", Modifier.isPrivate(f.getModifiers()));
        }
    }

    private static void privateOnes(Check check, Set<String> names, Method[] methods) {
        for (Method m : methods) {
            boolean isFace = m.getDeclaringClass() == RuleForge.class && Modifier.isPublic(m.getModifiers());
            check.isSo(m + " bears a name of its own", isFace || !names.contains(m.getName()));
            check.isSo(m + " is private", isFace || m.getDeclaringClass() != RuleForge.class
                || Modifier.isPrivate(m.getModifiers()));
            check.isSo(m + " has at most seven parameters", m.getParameterCount() <= 7);
        }
    }

    private static String sign(Method m) {
        StringBuilder b = new StringBuilder(m.getReturnType().getName()).append(' ').append(m.getName()).append('(');
        for (Class<?> c : m.getParameterTypes()) {
            b.append(b.charAt(b.length() - 1) == '(' ? "" : ",").append(c.getName());
        }
        return b.append(')').toString();
    }

    private static void source(Check check) throws Exception {
        String source = Files.readString(Path.of("src/main/java/RuleForge.java"));
        check.isSo("signs are 1 to 127", source.chars().allMatch(c -> c >= 1 && c <= 127));
        for (String line : source.split("\n")) {
            check.isSo("import of the list: " + line,
                !line.startsWith("import ") || line.equals("import java.util.Arrays;"));
        }
        String code = source.replaceAll("(?s)/\\*.*?\\*/", "").replaceAll("//[^\n]*", "");
        for (String no : new String[] {"->", "::", "catch", "finally", "synchronized", "assert", "System.exit",
            "System.out", "Random", "Thread", "nanoTime", "currentTimeMillis", "Exact(", "hashCode", "toString"}) {
            check.isNotSo("there is " + no, code.contains(no));
        }
    }
}
