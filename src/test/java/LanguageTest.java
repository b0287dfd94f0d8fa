import java.lang.reflect.Field;
import java.lang.reflect.Method;
import java.lang.reflect.Modifier;
import java.nio.file.Files;
import java.nio.file.Path;
import java.util.ArrayList;
import java.util.List;
import java.util.Set;
import java.util.TreeSet;
import java.util.regex.Matcher;
import java.util.regex.Pattern;

/** What of LANGUAGE.md can be seen from the outside, and that the face is the document's. */
final class LanguageTest {
    private static final Path SOURCE = Path.of("src/main/java/FogLots.java");
    private static final String FACE = "int lot(int,int,int);int lotOf(int,int);int sun(int,int);int mist(int);"
        + "int person(int);int of(int,int);int change(int,int,int);int trust(int,int);int go(int);int now(int);"
        + "int ahead(int,int,int);int fog(int,int);int falls(int);int bare();int meet(int,int);"
        + "int beliefFor(int,int);int settle(int,int);int kindFor(int,int);int rentFor(int,int);int sunFor(int);"
        + "int away(int,int);int fits(int,int);int believed(int,int);int kinds(int,int);int fine(int);"
        + "long odds(int,int,int);int seed(int);int feed(int,int);int wipe();int text();int hold(int,int);"
        + "int as(int,int);int sheet(int,int,int);int write(int,int,int);int copy(int,int,int,int,int);int load(int);"
        + "int judge(int);int image();int undo();int tear();int count(int);int status(int)";
    private static final Due due = new Due();

    public static void main(String[] args) throws Exception {
        face();
        names();
        fields();
        String code = withoutComments(Files.readString(SOURCE));
        words(code);
        lengths(code);
        due.end();
    }

    private static void no(String what, boolean is) {
        due.is(what, is ? 1 : 0, 0);
    }

    private static List<Class<?>> classes() {
        List<Class<?>> all = new ArrayList<>(List.of(FogLots.class));
        all.addAll(List.of(FogLots.class.getDeclaredClasses()));
        return all;
    }

    private static void face() {
        Set<String> seen = new TreeSet<>();
        for (Method m : FogLots.class.getDeclaredMethods()) {
            if (!Modifier.isPrivate(m.getModifiers()) && !m.isSynthetic()) {
                StringBuilder types = new StringBuilder();
                for (Class<?> type : m.getParameterTypes()) {
                    types.append(types.length() == 0 ? "" : ",").append(type.getSimpleName());
                }
                seen.add(m.getReturnType() + " " + m.getName() + "(" + types + ")");
            }
        }
        Set<String> want = new TreeSet<>(List.of(FACE.split(";")));
        due.same("the face", want.toString(), seen.toString());
        due.is("the class is public and final", FogLots.class.getModifiers(), Modifier.PUBLIC | Modifier.FINAL);
        due.is("public constructors", FogLots.class.getConstructors().length, 1);
        due.is("constructors", FogLots.class.getDeclaredConstructors().length, 1);
        for (Field f : FogLots.class.getDeclaredFields()) {
            no("rule 1: " + f.getName() + " isn't private", !Modifier.isPrivate(f.getModifiers()));
        }
    }

    private static void names() {
        for (Class<?> c : classes()) {
            for (Method m : c.getDeclaredMethods()) {
                boolean ofFace = FACE.contains(" " + m.getName() + "(");
                no("rule 1: name of " + m, ofFace && !Modifier.isPublic(m.getModifiers()));
                no("rule 11: parameters of " + m, m.getParameterCount() > 7);
            }
        }
    }

    private static void fields() {
        no("rule 11: classes", classes().size() > 12);
        for (Class<?> c : classes()) {
            int own = 0;
            for (Field f : c.getDeclaredFields()) {
                boolean isStatic = Modifier.isStatic(f.getModifiers());
                own += isStatic ? 0 : 1;
                no("rule 5: " + f, isStatic && !Modifier.isFinal(f.getModifiers()));
            }
            no("rule 11: fields of " + c, own > 20);
            no("rule 2: " + c + " isn't static", c != FogLots.class && !Modifier.isStatic(c.getModifiers()));
        }
    }

    private static String withoutComments(String text) {
        return text.replaceAll("(?s)/\\*.*?\\*/", "").replaceAll("//[^\n]*", "");
    }

    private static void words(String code) {
        String[] refused = {"throw", "throws", "try", "catch", "synchronized", "assert", "import", "package", "class\\s*\\(",
            "Exception", "Error", "System\\.(?!arraycopy)", "Math\\.\\w*Exact", "hashCode", "getClass", "Object",
            "double", "float", "static\\s*\\{", "while\\s*\\(\\s*true"};
        for (String word : refused) {
            no("refused word " + word, Pattern.compile("\\b" + word).matcher(code).find());
        }
        no("rule 2: a lambda or method reference", code.contains("->") || code.contains("::"));
        for (char c : code.toCharArray()) {
            no("a sign beyond 127", c > 127);
        }
    }

    private static void lengths(String code) {
        Matcher head = Pattern.compile("(?m)^( +)[\\w\\[\\] ]*\\w+\\([^;{]*\\) \\{$").matcher(code);
        int methods = 0;
        while (head.find()) {
            int end = code.indexOf("\n" + head.group(1) + "}", head.end());
            long lines = code.substring(head.start(), end).lines().count();
            methods++;
            no("rule 11: length of " + head.group().trim(), lines > 60);
        }
        no("no methods were seen", methods < 43);
    }
}
