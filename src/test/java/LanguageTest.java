import java.io.IOException;
import java.lang.reflect.Constructor;
import java.lang.reflect.Field;
import java.lang.reflect.Method;
import java.lang.reflect.Modifier;
import java.nio.file.Files;
import java.nio.file.Path;
import java.util.Set;
import java.util.TreeSet;
import java.util.regex.Matcher;
import java.util.regex.Pattern;

/** The face of the class, and those rules of LANGUAGE.md that its text shows. */
public final class LanguageTest {
    private static final String FACE = "int house(int,int);int now(int);int person(int);int of(int,int);int says(int,int,int);"
        + "int set(int,int,int);int turn(int,int);int as(int,int);int swap(int,int);int breaks(int,int);int days(int);"
        + "int on(int,int);int then(int,int,int);int hunger();int comes(int);int watched(int);int turns(int);"
        + "int reason(int,int,int);int enough(int);int kind(int,int);int needs(int,int);int keep(int);int most(int);"
        + "int feed(int,int);int wipe();int text();int sheet(int,int,int);long write(int,int,long);"
        + "int copy(int,int,int,int,int);int lays(int);int book(int);int read(int,int);int image();int undo();int tear();"
        + "int count(int);int status(int)";
    private static final String[] FORBIDDEN = {"throw", "throws", "try", "catch", "finally", "synchronized", "assert",
        "import", "package", "Object", "Exception", "Error", "System\\.(?!arraycopy)", "Random", "Thread", "var", "yield",
        "equals\\s*\\(", "hashCode", "toString"};
    private static final String[] FORBIDDEN_SIGNS = {"->", "::", "@", "static\\s*\\{", "\"\\s*\\+", "\\+\\s*\"", "\\+=\\s*\""};

    public static void main(String[] args) throws IOException {
        face();
        Class<?>[] inside = EggReasons.class.getDeclaredClasses();
        Check.due("some twelve classes", inside.length < 12 ? 1 : 0, 1);
        for (Class<?> one : inside) inside(one);
        text(Files.readString(Path.of(args.length > 0 ? args[0] : "src/main/java/EggReasons.java")));
        Check.end();
    }

    private static void face() {
        Check.due("public and final", EggReasons.class.getModifiers() & (Modifier.PUBLIC | Modifier.FINAL), 17);
        Constructor<?>[] made = EggReasons.class.getDeclaredConstructors();
        Check.due("one constructor", made.length, 1);
        Check.due("a public one", made[0].getModifiers() & Modifier.PUBLIC, 1);
        Check.due("of nothing", made[0].getParameterCount(), 0);
        Set<String> got = new TreeSet<>();
        for (Method m : EggReasons.class.getDeclaredMethods()) {
            if (Modifier.isPrivate(m.getModifiers())) continue;
            Check.due(m.getName() + " is public and no more", m.getModifiers(), Modifier.PUBLIC);
            StringBuilder told = new StringBuilder(m.getReturnType().getName()).append(' ').append(m.getName()).append('(');
            for (int i = 0; i < m.getParameterCount(); i++) told.append(i > 0 ? "," : "").append(m.getParameterTypes()[i].getName());
            got.add(told.append(')').toString());
        }
        Check.same("the face", got.toString(), new TreeSet<>(Set.of(FACE.split(";"))).toString());
        fields(EggReasons.class, true);
        for (Method m : EggReasons.class.getDeclaredMethods()) {
            if (Modifier.isPrivate(m.getModifiers())) noPublicName(m);
        }
    }

    private static void inside(Class<?> one) {
        Check.due(one.getName() + " is static", one.getModifiers() & Modifier.STATIC, Modifier.STATIC);
        Check.due(one.getName() + " is not public", one.getModifiers() & (Modifier.PUBLIC | Modifier.PROTECTED), 0);
        fields(one, false);
        for (Method m : one.getDeclaredMethods()) noPublicName(m);
    }

    private static void noPublicName(Method m) {
        Check.due(m.getName() + " is no public name", FACE.contains(" " + m.getName() + "(") ? 1 : 0, 0);
    }

    private static void fields(Class<?> one, boolean arePrivate) {
        int own = 0;
        for (Field f : one.getDeclaredFields()) {
            if (Modifier.isStatic(f.getModifiers())) {
                Check.due(f + " is final", f.getModifiers() & Modifier.FINAL, Modifier.FINAL);
            } else {
                own++;
            }
            if (arePrivate) Check.due(f + " is private", f.getModifiers() & Modifier.PRIVATE, Modifier.PRIVATE);
        }
        Check.due(one.getName() + " has some twenty fields", own <= 20 ? 1 : 0, 1);
    }

    private static void text(String source) {
        String code = source.replaceAll("(?s)/\\*.*?\\*/", " ").replaceAll("//[^\n]*", " ");
        for (String sign : FORBIDDEN_SIGNS) dueNone(sign, code);
        String bare = code.replaceAll("\"[^\"]*\"", " ");
        for (String word : FORBIDDEN) dueNone("\\b" + word + (word.endsWith("(") || word.endsWith(")") ? "" : "\\b"), bare);
        for (int i = 0; i < source.length(); i++) {
            if (source.charAt(i) > 126) Check.due("a sign at " + i, source.charAt(i), 126);
        }
    }

    private static void dueNone(String pattern, String code) {
        Matcher m = Pattern.compile(pattern).matcher(code);
        if (m.find()) Check.same("in the text, by " + pattern, m.group(), "nothing");
        else Check.due(pattern, 0, 0);
    }
}
