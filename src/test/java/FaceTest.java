import java.lang.reflect.Constructor;
import java.lang.reflect.Field;
import java.lang.reflect.Method;
import java.lang.reflect.Modifier;
import java.nio.file.Files;
import java.nio.file.Path;
import java.util.Set;
import java.util.TreeSet;
import java.util.regex.Matcher;
import java.util.regex.Pattern;

/** The public face, the constants, and those rules of LANGUAGE.md that a look at the text can tell. */
public final class FaceTest {
    private static final Set<String> METHODS = Set.of(
            "int type(long,int)", "int clear()", "int gang()", "int digger(int,int)", "int spade(int,int)",
            "int yard(int,int)", "int may(int,int)", "int throwWith(int,int)", "int ends()", "int breaks(int)",
            "int now(int)", "int anew()", "int longest()", "int begins(int)", "int most(int)",
            "int rings(int,int,int)", "int meeting(int,int,int,int,int)", "int songs(int,int,int,int)",
            "int hole(int,int,int)", "int night(int)", "int least()", "int dry()", "int tell(int,int,int)",
            "int cheats(int)", "int mark(int,int)", "int keep(int)", "int back(int)", "int count(int)",
            "long trace()");

    public static void main(String[] args) throws Exception {
        Check c = new Check("FaceTest");
        constants(c);
        members(c);
        sizes(c);
        source(c);
        c.close();
    }

    private static void constants(Check c) {
        c.due("BAD", SpadeRings.BAD, -1);
        c.due("STATE", SpadeRings.STATE, -2);
        c.due("FULL", SpadeRings.FULL, -3);
        c.due("NONE", SpadeRings.NONE, -9);
        c.due("NO", SpadeRings.NO, -1000000);
    }

    private static void members(Check c) {
        Class<?> face = SpadeRings.class;
        c.is("public and final", Modifier.isPublic(face.getModifiers()) && Modifier.isFinal(face.getModifiers()));
        Set<String> found = new TreeSet<>();
        Set<String> names = new TreeSet<>();
        Set<String> hidden = new TreeSet<>();
        for (Method m : face.getDeclaredMethods()) {
            if (Modifier.isPrivate(m.getModifiers())) {
                hidden.add(m.getName());
            } else if (!m.isSynthetic()) {
                found.add(told(m));
                names.add(m.getName());
            }
        }
        c.is("methods " + found, found.equals(METHODS));
        for (Class<?> inside : face.getDeclaredClasses()) {
            c.is(inside + " is static", Modifier.isStatic(inside.getModifiers()));
            for (Method m : inside.getDeclaredMethods()) {
                hidden.add(m.getName());
            }
        }
        hidden.retainAll(names);
        c.is("no other method bears a public name: " + hidden, hidden.isEmpty());
        Set<String> fields = new TreeSet<>();
        for (Field f : face.getDeclaredFields()) {
            if (!Modifier.isPrivate(f.getModifiers())) {
                fields.add(f.getName());
            }
        }
        c.is("fields " + fields, fields.equals(Set.of("BAD", "STATE", "FULL", "NONE", "NO")));
        Constructor<?>[] made = face.getDeclaredConstructors();
        c.is("one public constructor", made.length == 1 && Modifier.isPublic(made[0].getModifiers())
                && made[0].getParameterCount() == 0);
    }

    private static String told(Method m) {
        StringBuilder text = new StringBuilder(m.getReturnType() + " " + m.getName() + "(");
        for (Class<?> type : m.getParameterTypes()) {
            text.append(text.charAt(text.length() - 1) == '(' ? "" : ",").append(type);
        }
        return text.append(")").toString();
    }

    /** Rules 2, 5, 11: how many classes, fields and parameters; what is static. */
    private static void sizes(Check c) {
        Class<?>[] inside = SpadeRings.class.getDeclaredClasses();
        c.is("twelve classes at most", inside.length + 1 <= 12);
        size(c, SpadeRings.class);
        for (Class<?> one : inside) {
            c.is(one + " is not public", !Modifier.isPublic(one.getModifiers()) && !Modifier.isProtected(one.getModifiers()));
            c.due("classes inside " + one, one.getDeclaredClasses().length, 0);
            size(c, one);
        }
    }

    private static void size(Check c, Class<?> one) {
        int fields = 0;
        for (Field f : one.getDeclaredFields()) {
            if (Modifier.isStatic(f.getModifiers())) {
                c.is(f + " is final", Modifier.isFinal(f.getModifiers()));
            } else {
                fields++;
            }
        }
        c.is(one + " has twenty fields at most: " + fields, fields <= 20);
        for (Method m : one.getDeclaredMethods()) {
            c.is(m + " takes seven parameters at most", m.getParameterCount() <= 7);
            c.is(m + " is the class's own", !Set.of("equals", "hashCode", "toString").contains(m.getName()));
        }
    }

    /** Rule 11: some sixty lines; a method begins and ends where its own indent stands. */
    private static int longestMethod(String text) {
        int longest = 0;
        int begun = 0;
        String indent = "";
        String[] lines = text.split("\n");
        for (int i = 0; i < lines.length; i++) {
            if (lines[i].matches(" +[\\w\\[\\]<> ]+\\(.*\\) \\{") && !lines[i].matches(" +(if|for|while|switch|else|return) .*")) {
                begun = i;
                indent = lines[i].replaceAll("\\S.*", "");
            } else if (begun > 0 && lines[i].equals(indent + "}")) {
                longest = Math.max(longest, i - begun + 1);
                begun = 0;
            }
        }
        return longest;
    }

    private static void source(Check c) throws Exception {
        String text = Files.readString(Path.of("src/main/java/SpadeRings.java"));
        String code = text.replaceAll("(?s)/\\*.*?\\*/", " ").replaceAll("//[^\n]*", " ");
        Matcher banned = Pattern.compile("\\b(throw|throws|try|catch|finally|synchronized|assert|import|package"
                + "|Exception|Object|var|System\\.out|Math\\.\\w+Exact)\\b|->|::").matcher(code);
        c.is("no banned word" + (banned.find() ? ": " + banned.group() : ""), !banned.reset().find());
        c.is("a loop's end is told", !Pattern.compile("while \\(true\\)|for \\(;;|for \\([^;]*; *;").matcher(code).find());
        int longest = longestMethod(text);
        c.is("no method of more than sixty lines: " + longest, longest > 10 && longest <= 60);
        c.is("signs 1 to 127", text.chars().allMatch(sign -> sign >= 1 && sign <= 127));
        // The two helps that look at the divisor first are the only ones that may divide by a variable.
        Matcher divisor = Pattern.compile("[/%]\\s*([^\\s])").matcher(code);
        int byVariable = 0;
        while (divisor.find()) {
            byVariable += Character.isDigit(divisor.group(1).charAt(0)) ? 0 : 1;
        }
        c.due("divisions by a variable", byVariable, 2);
    }
}
