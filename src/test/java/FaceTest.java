import java.io.IOException;
import java.lang.reflect.Constructor;
import java.lang.reflect.Field;
import java.lang.reflect.Method;
import java.lang.reflect.Modifier;
import java.nio.file.Files;
import java.nio.file.Path;
import java.util.Set;
import java.util.TreeSet;
import java.util.regex.Matcher;
import java.util.regex.Pattern;

/** The public face is the document's and no more; what of LANGUAGE.md can be seen from the file and the class. */
public final class FaceTest {
    private static final String[] FACE = {
        "int feed(int,int,int,int,int)", "boolean end(int)", "int fault(int)", "int text(int)", "int clause(int,int)",
        "boolean weigh(int,int,int,int,int,int,int)", "int weight(int,int)", "void seed(long)", "int dawn()",
        "int told(int)", "int undo()", "int day(int,int)", "int held(int,int)", "int deed(int,int,int)",
        "long odds(int,int,int)", "long both(int,int,int)", "long free(int)", "long holds(int,int,int)",
        "long again(int,int)", "int sure(int)", "int waits(int,int)", "long value(int,int,int,int)",
        "int act(int,int,int)", "int suit(int,int)", "boolean suspect(int,int,int,int,int,int)",
        "int named(int,int,int)", "int enough(int,int)", "boolean amend(int,int,int)",
        "long amended(int,int,int,int)", "long help(int,int)", "int follow(int,int,int)",
        "long given(int,int,int,int)", "int harm(int)", "long likeliest(int)", "int apart(int,int)", "long mean(int)",
        "long change(int,int,int,int)", "int run(int,int)", "int peace(int)", "int idle(int)", "int busiest()",
        "int image()", "int back()", "int count(int)"};

    private static String told(Method m) {
        StringBuilder s = new StringBuilder(m.getReturnType() + " " + m.getName() + "(");
        for (Class<?> type : m.getParameterTypes()) {
            s.append(s.charAt(s.length() - 1) == '(' ? "" : ",").append(type);
        }
        return s + ")";
    }

    private static void face() throws ReflectiveOperationException {
        Set<String> want = new TreeSet<>(Set.of(FACE));
        Set<String> got = new TreeSet<>();
        Set<String> names = new TreeSet<>();
        for (Method m : DiceLaw.class.getDeclaredMethods()) {
            if (!Modifier.isPrivate(m.getModifiers())) {
                Due.is("public and of the object: " + m, m.getModifiers(), Modifier.PUBLIC);
                got.add(told(m));
                names.add(m.getName());
            }
        }
        Due.is("45 promises are a constructor and 44 methods: " + got, got.equals(want), true);
        Due.is("public and final", DiceLaw.class.getModifiers(), Modifier.PUBLIC | Modifier.FINAL);
        Constructor<?>[] made = DiceLaw.class.getDeclaredConstructors();
        Due.is("one constructor", made.length, 1);
        Due.is("without parameters", made[0].getParameterCount(), 0);
        for (Field f : DiceLaw.class.getDeclaredFields()) {
            boolean constant = f.getName().equals("NONE") || f.getName().equals("HIDDEN");
            Due.is("field " + f, Modifier.isPrivate(f.getModifiers()), !constant);
            Due.is("static is final: " + f, Modifier.isStatic(f.getModifiers()) && !Modifier.isFinal(f.getModifiers()),
                    false);
        }
        Due.is("NONE", DiceLaw.class.getField("NONE").getInt(null), -1);
        Due.is("HIDDEN", DiceLaw.class.getField("HIDDEN").getInt(null), -1000000000);
        privateNames(DiceLaw.class, names);
        Class<?>[] inside = DiceLaw.class.getDeclaredClasses();
        Due.is("at most twelve classes", inside.length <= 11, true);
        for (Class<?> c : inside) {
            Due.is("static: " + c, Modifier.isStatic(c.getModifiers()), true);
            privateNames(c, names);
        }
    }

    private static void privateNames(Class<?> c, Set<String> names) {
        for (Method m : c.getDeclaredMethods()) {
            if (Modifier.isPrivate(m.getModifiers())) {
                Due.is("no public method's name: " + m, names.contains(m.getName()), false);
            }
            Due.is("at most seven parameters: " + m, m.getParameterCount() <= 7, true);
        }
        int fields = 0;
        for (Field f : c.getDeclaredFields()) {
            fields += Modifier.isStatic(f.getModifiers()) ? 0 : 1;
        }
        Due.is("at most twenty fields: " + c, fields <= 20, true);
    }

    private static void file() throws IOException {
        String source = Files.readString(Path.of("src/main/java/DiceLaw.java"));
        String code = source.replaceAll("(?s)/\\*.*?\\*/", "").replaceAll("//[^\n]*", "")
                .replaceAll("\"[^\"\n]*\"", "\"\"");
        String[] not = {"finally", "synchronized", "assert", "->", "::", "\\bMath\\.\\w*Exact", "\"\"\\s*\\+",
            "\\+\\s*\"\"", "static\\s*\\{", "package ", "\\bThread\\b", "\\bSystem\\.(?!arraycopy)",
            "import (?!java\\.util\\.(NoSuchElementException|ArrayList|List|Iterator|Arrays);)",
            "catch \\((Throwable|(Runtime)?Exception|Error|NullPointer|Array|ClassCast|NegativeArray)"};
        for (String sign : not) {
            Due.is("not in the file: " + sign, Pattern.compile(sign).matcher(code).find(), false);
        }
        String header = "(?m)^( {4}| {8})(public|private)(?![^\\n]*\\bclass\\b)[^;=]*?\\{\n";
        Matcher method = Pattern.compile(header + "(.*?)^\\1\\}", Pattern.DOTALL).matcher(source);
        int methods = 0;
        while (method.find()) {
            methods++;
            long lines = method.group().lines().count();
            Due.is("short: " + method.group().lines().findFirst().orElse(""), lines <= 60, true);
        }
        Due.is("the methods were found", methods >= FACE.length, true);
    }

    private static void everyPromiseIsAsked() throws IOException {
        StringBuilder tests = new StringBuilder();
        for (String name : new String[] {"Text", "Dawn", "Odds", "Suit", "Amend", "Rule"}) {
            tests.append(Files.readString(Path.of("src/test/java/" + name + "Test.java")));
        }
        for (int promise = 1; promise <= 45; promise++) {
            Due.is("a test by hand for promise " + promise, tests.indexOf("\"P" + promise + " ") >= 0, true);
        }
    }

    public static void main(String[] args) throws IOException, ReflectiveOperationException {
        face();
        file();
        everyPromiseIsAsked();
        Due.close("FaceTest");
    }
}
