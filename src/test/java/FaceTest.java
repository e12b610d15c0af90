import java.lang.reflect.Constructor;
import java.lang.reflect.Field;
import java.lang.reflect.Method;
import java.lang.reflect.Modifier;
import java.nio.file.Files;
import java.nio.file.Path;
import java.util.Set;
import java.util.TreeSet;
import java.util.regex.Matcher;
import java.util.regex.Pattern;

/** The document's public face, and those rules of LANGUAGE.md that can be seen from the class or its text. */
public final class FaceTest {
    private static final Check CHECK = new Check("FaceTest");
    private static final String[] FACE = {"int letter 1", "int lock 0", "int pin 1", "int key 2", "int machine 2",
        "int sets 2", "int slack 1", "int files 3", "int turn 3", "int cut 2", "int uses 2", "int snaps 1", "int opening 0",
        "int family 2", "int common 2", "int nearest 0", "int next 1", "int inRow 3", "int lasts 1", "int fit 1",
        "int anew 1", "int first 2", "int unlike 2", "int mend 1", "int line 1", "int bestLine 0", "int ask 1",
        "int spare 0", "long slip 5", "int two 2", "int which 3", "int row 1", "int judge 1", "int clear 0", "int lots 3",
        "int image 0", "int on 0", "int count 1"};
    private static final String[] BARRED = {"\\bthrow\\b", "\\btry\\b", "\\bcatch\\b", "\\bfinally\\b", "\\bsynchronized\\b",
        "\\bassert\\b", "->", "::", "\\bvolatile\\b", "\\bprotected\\b", "Exact\\s*\\(", "\\bObject\\b", "\\bSystem\\.(?!arraycopy)",
        "\\bequals\\b", "\\bhashCode\\b", "\\btoString\\b", "\\bpackage\\b", "\\bMAX_VALUE\\b", "\\bMIN_VALUE\\b",
        "\\bRandom\\b", "\\bThread\\b", "\"\\s*\\+", "\\+\\s*\""};

    public static void main(String[] args) throws Exception {
        members();
        insideClasses();
        String source = Files.readString(Path.of(System.getProperty("project.root", "."), "src/main/java/CopyOfACopy.java"));
        text(withoutComments(source), source);
        CHECK.end();
    }

    private static void members() {
        Class<?> type = CopyOfACopy.class;
        CHECK.due("public and final", type.getModifiers(), Modifier.PUBLIC | Modifier.FINAL);
        CHECK.due("constructors", type.getDeclaredConstructors().length, 1);
        Constructor<?> constructor = type.getDeclaredConstructors()[0];
        CHECK.due("public constructor", constructor.getModifiers(), Modifier.PUBLIC);
        CHECK.due("its parameters", constructor.getParameterCount(), 0);
        Set<String> due = new TreeSet<>(Set.of(FACE));
        Set<String> publicNames = new TreeSet<>();
        for (Method method : type.getDeclaredMethods()) {
            if (Modifier.isPrivate(method.getModifiers())) {
                continue;
            }
            CHECK.due(method + " public alone", method.getModifiers(), Modifier.PUBLIC);
            String told = method.getReturnType() + " " + method.getName() + " " + method.getParameterCount();
            CHECK.due(told + " is of the face", due.remove(told) ? 1 : 0, 1);
            publicNames.add(method.getName());
            for (Class<?> parameter : method.getParameterTypes()) {
                CHECK.due(method + " takes ints", parameter == int.class ? 1 : 0, 1);
            }
        }
        CHECK.due("lacking of the face: " + due, due.size(), 0);
        for (Method method : type.getDeclaredMethods()) {
            boolean twice = Modifier.isPrivate(method.getModifiers()) && publicNames.contains(method.getName());
            CHECK.due(method + " bears no public name", twice ? 1 : 0, 0);
        }
        fields(type);
    }

    private static void fields(Class<?> type) {
        int own = 0;
        for (Field field : type.getDeclaredFields()) {
            boolean isStatic = Modifier.isStatic(field.getModifiers());
            CHECK.due(field + " final if static", isStatic && !Modifier.isFinal(field.getModifiers()) ? 1 : 0, 0);
            boolean isOpen = type == CopyOfACopy.class && !Modifier.isPrivate(field.getModifiers());
            CHECK.due(field + " private", isOpen ? 1 : 0, 0);
            own += isStatic ? 0 : 1;
        }
        CHECK.due(type + " has twenty fields at most", Math.max(20, own), 20);
    }

    private static void insideClasses() {
        Class<?>[] inside = CopyOfACopy.class.getDeclaredClasses();
        CHECK.due("twelve classes at most", Math.max(12, inside.length + 1), 12);
        for (Class<?> type : inside) {
            int modifiers = type.getModifiers();
            CHECK.due(type + " static", Modifier.isStatic(modifiers) ? 1 : 0, 1);
            CHECK.due(type + " not public", Modifier.isPublic(modifiers) || Modifier.isProtected(modifiers) ? 1 : 0, 0);
            fields(type);
            for (Method method : type.getDeclaredMethods()) {
                CHECK.due(method + " seven parameters at most", Math.max(7, method.getParameterCount()), 7);
            }
        }
    }

    private static void text(String code, String source) {
        for (String barred : BARRED) {
            CHECK.due("barred " + barred, Pattern.compile(barred).matcher(code).find() ? 1 : 0, 0);
        }
        CHECK.due("ASCII alone", source.chars().allMatch(c -> c == '\n' || c >= 32 && c < 127) ? 1 : 0, 1);
        Matcher imports = Pattern.compile("import ([^;]+);").matcher(code);
        while (imports.find()) {
            CHECK.due("import " + imports.group(1), imports.group(1).equals("java.util.Arrays") ? 1 : 0, 1);
        }
        String[] lines = code.split("\n", -1);
        int begun = 0;
        String name = "";
        Pattern method = Pattern.compile("^(    |        )(?! ).*\\b(\\w+)\\([^;=]*\\) \\{$");
        for (int i = 0; i < lines.length; i++) {
            Matcher begins = method.matcher(lines[i]);
            if (begins.find() && !lines[i].contains("class ")) {
                begun = i;
                name = begins.group(2);
            }
            CHECK.due(name + " stays short at line " + (i + 1), lines[i].isBlank() ? 0 : Math.max(0, i - begun - 60), 0);
            if (Pattern.compile("\\bnew\\b").matcher(lines[i]).find()) {
                // Only constructors may make objects, so that no call fills the room.
                CHECK.due("new in " + name, Character.isUpperCase(name.charAt(0)) ? 1 : 0, 1);
            }
        }
    }

    private static String withoutComments(String source) {
        return source.replaceAll("(?s)/\\*.*?\\*/", "").replaceAll("//[^\n]*", "");
    }
}
