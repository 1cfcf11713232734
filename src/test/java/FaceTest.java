import java.lang.reflect.Constructor;
import java.lang.reflect.Field;
import java.lang.reflect.Method;
import java.lang.reflect.Modifier;
import java.nio.file.Files;
import java.nio.file.Path;
import java.util.Arrays;
import java.util.Set;
import java.util.TreeSet;
import java.util.regex.Pattern;

/** The public face, and what LANGUAGE.md rules out that can be seen from outside. */
public final class FaceTest {
    private static final String[] FACE = {
        "int persons(int)", "int tie(int,int,boolean)", "int kind(int,int)", "int read(int,int)",
        "int about(int,int)", "int far(int,int)", "int set(int,int)", "long found(int,int)",
        "long both(int,int,int)", "long size(int,int)", "long kinds(int,int)", "long within(int,int)",
        "long at(int,int,int)", "long lasting(int,int)", "long strayed(int,int)",
        "int came(int,int,int,int)", "int takeBack(int,int)", "int record(int,int)",
        "long share(int,int)", "long bounds(int,int,int)", "long leaving(int,int)", "int alike(int)",
        "long forgot(int,int)", "int wave(int)", "int type(int,int)", "int wipe(int)",
        "int clash(int,int)", "int least()", "int ones(int)", "int reach(int)", "int parts(int)",
        "long narrow(int)", "int sheet(int,int,int)", "int lose(int)", "int lay(int,int,int,int)",
        "int get(int,int,int)", "int copy(int,int,int,int,int)", "int write(int,int)",
        "int count(int)", "long digest()"
    };
    private static final Pattern RULED_OUT = Pattern.compile(
        "\\b(throw|throws|try|catch|synchronized|assert|double|float|hashCode|toString|Exact)\\b|->|::|Exact\\(");

    public static void main(String[] args) throws Exception {
        Check check = new Check();
        Class<?> type = ThroughOthers.class;
        check.due("public and final", type.getModifiers(), Modifier.PUBLIC | Modifier.FINAL);
        check.due("NONE", ThroughOthers.NONE, -1);
        check.due("BAD", ThroughOthers.BAD, -2);
        check.due("NOT", ThroughOthers.NOT, -3);
        check.due("FULL", ThroughOthers.FULL, -4);
        checkMethods(check, type);
        checkFields(check, type);
        for (Constructor<?> made : type.getDeclaredConstructors()) {
            check.due("constructor " + made, Modifier.isPublic(made.getModifiers()) ? made.getParameterCount() : -1, 0);
        }
        checkInside(check, type);
        checkWords(check);
        end(check);
    }

    private static void checkMethods(Check check, Class<?> type) {
        Set<String> open = new TreeSet<>();
        Set<String> names = new TreeSet<>();
        for (Method m : type.getDeclaredMethods()) {
            if (!Modifier.isPrivate(m.getModifiers())) {
                open.add(signature(m));
                names.add(m.getName());
            }
        }
        Set<String> face = new TreeSet<>(Arrays.asList(FACE));
        if (!open.equals(face)) {
            System.out.println("the face is " + open);
        }
        check.due("methods of the face", open.equals(face) ? 1 : 0, 1);
        Class<?>[] inside = type.getDeclaredClasses();
        for (int i = -1; i < inside.length; i++) {
            for (Method m : (i < 0 ? type : inside[i]).getDeclaredMethods()) {
                boolean own = i < 0 && !Modifier.isPrivate(m.getModifiers());
                check.due("a name of the face borne by " + m, !own && names.contains(m.getName()) ? 1 : 0, 0);
                check.due("parameters of " + m, m.getParameterCount() > 7 ? 1 : 0, 0);
            }
        }
    }

    private static String signature(Method m) {
        StringBuilder text = new StringBuilder(m.getReturnType() + " " + m.getName() + "(");
        for (Class<?> p : m.getParameterTypes()) {
            text.append(text.charAt(text.length() - 1) == '(' ? "" : ",").append(p);
        }
        return text.append(")").toString();
    }

    private static void checkFields(Check check, Class<?> type) {
        Set<String> constants = Set.of("NONE", "BAD", "NOT", "FULL");
        for (Field f : type.getDeclaredFields()) {
            boolean hidden = Modifier.isPrivate(f.getModifiers());
            check.due("field " + f, hidden == constants.contains(f.getName()) ? 1 : 0, 0);
        }
    }

    private static void checkInside(Check check, Class<?> type) {
        check.due("too many classes", type.getDeclaredClasses().length > 11 ? 1 : 0, 0);
        for (Class<?> inside : type.getDeclaredClasses()) {
            check.due("static " + inside, Modifier.isStatic(inside.getModifiers()) ? 1 : 0, 1);
            int fields = 0;
            for (Field f : inside.getDeclaredFields()) {
                boolean still = Modifier.isStatic(f.getModifiers());
                fields += still ? 0 : 1;
                check.due("static state " + f, still && !Modifier.isFinal(f.getModifiers()) ? 1 : 0, 0);
            }
            check.due("too many fields " + inside, fields > 20 ? 1 : 0, 0);
        }
    }

    private static void checkWords(Check check) throws Exception {
        int number = 0;
        for (String line : Files.readAllLines(Path.of("src/main/java/ThroughOthers.java"))) {
            number++;
            String code = line.replaceAll("//.*", "").replaceAll("^\\s*/?\\*.*", "");
            check.due("ruled out in line " + number, RULED_OUT.matcher(code).find() ? 1 : 0, 0);
            boolean foreign = code.startsWith("import") && !code.equals("import java.util.Arrays;");
            check.due("import in line " + number, foreign ? 1 : 0, 0);
        }
    }

    private static void end(Check check) {
        check.end();
    }
}
