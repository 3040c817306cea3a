import java.io.IOException;
import java.lang.reflect.Constructor;
import java.lang.reflect.Field;
import java.lang.reflect.Method;
import java.lang.reflect.Modifier;
import java.nio.file.Files;
import java.nio.file.Path;
import java.util.ArrayList;
import java.util.Arrays;
import java.util.List;
import java.util.TreeSet;
import java.util.regex.Pattern;

/** The public face, and those rules of LANGUAGE.md that can be seen from outside or by a word. */
public final class FaceTest {
    private static final Due due = new Due("FaceTest");
    private static final String[] FACE = {
        "int person()", "int owe(int,int,int)", "int pay(int,int,int)", "int consent(int,int,boolean)",
        "int of(int,int,int)", "int debt(int,int)", "int feed(int)", "int read()", "int cut(int,int)",
        "int ring(int,int)", "int trail(int,int)", "int forget()", "long balance(int)", "int group(int)",
        "int payment(int,int)", "int willing(int,int)", "int settle()", "int told(int)", "int without(int)",
        "int see(int,int,int)", "int fits(int,int,int)", "long odds(int,int,int)", "long mean(int)",
        "int event(int,int)", "int after(int)", "int book(int,int,int)", "int looked()", "int judge(int,int)",
        "int image()", "int undo()", "int count(int)", "int tape(int,int,int)", "int item(int,int,long)",
        "long peek(int,int)", "int shift(int,int,int,int,int)"};
    private static final String[] CONSTANTS = {"int NONE", "int BAD", "int STATE", "int FULL", "long NO"};
    private static final String[] FORBIDDEN = {"\\bthrow\\b", "\\btry\\b", "\\bcatch\\b", "\\bsynchronized\\b",
        "\\bassert\\b", "->", "::", "Exact\\b", "static \\{", "\\bprotected\\b",
        "\\bSystem\\.(?!arraycopy)"};

    public static void main(String[] args) throws IOException {
        face();
        classes();
        words();
        due.end();
    }

    private static void face() {
        int modifiers = DebtRings.class.getModifiers();
        due.isTrue("public and final", Modifier.isPublic(modifiers) && Modifier.isFinal(modifiers));
        TreeSet<String> methods = new TreeSet<>();
        for (Method m : DebtRings.class.getDeclaredMethods()) {
            if (!Modifier.isPrivate(m.getModifiers())) {
                due.isTrue(m + " is public, not static", m.getModifiers() == Modifier.PUBLIC);
                String types = String.join(",", Arrays.stream(m.getParameterTypes()).map(Class::getName).toList());
                methods.add(m.getReturnType() + " " + m.getName() + "(" + types + ")");
            }
        }
        due.isTrue("the methods are those of the face: " + methods,
            methods.equals(new TreeSet<>(Arrays.asList(FACE))));
        TreeSet<String> constants = new TreeSet<>();
        for (Field f : DebtRings.class.getDeclaredFields()) {
            if (!Modifier.isPrivate(f.getModifiers())) {
                due.isTrue(f + " is a constant",
                    f.getModifiers() == (Modifier.PUBLIC | Modifier.STATIC | Modifier.FINAL));
                constants.add(f.getType() + " " + f.getName());
            }
        }
        due.isTrue("the constants are those of the face: " + constants,
            constants.equals(new TreeSet<>(Arrays.asList(CONSTANTS))));
        Constructor<?>[] made = DebtRings.class.getDeclaredConstructors();
        due.isTrue("one public constructor", made.length == 1 && Modifier.isPublic(made[0].getModifiers())
            && made[0].getParameterCount() == 0);
    }

    private static void classes() {
        TreeSet<String> publicNames = new TreeSet<>();
        for (String told : FACE) {
            publicNames.add(told.substring(told.indexOf(' ') + 1, told.indexOf('(')));
        }
        List<Class<?>> all = new ArrayList<>(Arrays.asList(DebtRings.class.getDeclaredClasses()));
        due.isTrue("twelve classes at most", all.size() < 12);
        for (Class<?> c : all) {
            due.isTrue(c + " is static", Modifier.isStatic(c.getModifiers()));
            due.isTrue(c + " has no class inside", c.getDeclaredClasses().length == 0);
        }
        all.add(DebtRings.class);
        for (Class<?> c : all) {
            long fields = 0;
            for (Field f : c.getDeclaredFields()) {
                boolean isStatic = Modifier.isStatic(f.getModifiers());
                fields += isStatic ? 0 : 1;
                due.isTrue(f + ", if static, is final", !isStatic || Modifier.isFinal(f.getModifiers()));
            }
            due.isTrue(c + " has twenty fields at most", fields <= 20);
            for (Method m : c.getDeclaredMethods()) {
                due.isTrue(m + " has seven parameters at most", m.getParameterCount() <= 7);
                boolean isFace = c == DebtRings.class && Modifier.isPublic(m.getModifiers());
                due.isTrue(m + " bears no name of a public one", isFace || !publicNames.contains(m.getName()));
            }
        }
    }

    private static void words() throws IOException {
        String source = Files.readString(Path.of("src/main/java/DebtRings.java"));
        String code = source.replaceAll("(?s)/\\*.*?\\*/", "").replaceAll("//.*", "");
        for (String word : FORBIDDEN) {
            due.isTrue("there is no " + word, !Pattern.compile(word).matcher(code).find());
        }
        due.isTrue("signs 1 to 127 alone", source.chars().allMatch(c -> c > 0 && c < 128));
    }
}
