import java.lang.reflect.Method;
import java.nio.file.Files;
import java.nio.file.Path;
import java.util.List;
import java.util.Set;
import java.util.TreeSet;
import java.util.regex.Matcher;
import java.util.regex.Pattern;

/** The calls that README.md shows, asked in their order on one object: each answers as the page tells. */
public final class ReadmeTest {
    private static final Pattern CALL = Pattern.compile("x\\.(\\w+)\\((.*)\\); +// (-?\\d+)\\b.*");
    private static final Pattern TEXT = Pattern.compile("for \\(char sign : \"(.*)\"\\.toCharArray\\(\\)\\) \\{");
    /** Lines that only frame the calls. */
    private static final Set<String> FRAME = Set.of("SpadeRings x = new SpadeRings();", "x.type(sign, 1);", "}", "");

    private static final Check c = new Check("ReadmeTest");
    private static final SpadeRings x = new SpadeRings();
    private static final Set<String> shown = new TreeSet<>();

    public static void main(String[] args) throws Exception {
        boolean inJava = false;
        for (String line : Files.readAllLines(Path.of("README.md"))) {
            if (line.startsWith("```")) {
                inJava = line.equals("```java");
            } else if (inJava) {
                read(line.strip());
            }
        }
        Set<String> face = new TreeSet<>();
        for (Method m : methods()) {
            face.add(m.getName());
        }
        face.removeAll(shown);
        c.is("the page shows each call; not these: " + face, face.isEmpty());
        c.close();
    }

    private static void read(String line) throws Exception {
        Matcher call = CALL.matcher(line);
        Matcher text = TEXT.matcher(line);
        if (call.matches()) {
            c.due(line, answer(call.group(1), call.group(2)), Long.parseLong(call.group(3)));
            shown.add(call.group(1));
        } else if (text.matches()) {
            for (char sign : text.group(1).toCharArray()) {
                x.type(sign, 1);
            }
        } else {
            c.is("a line that can be asked: " + line, FRAME.contains(line));
        }
    }

    private static long answer(String name, String told) throws Exception {
        for (Method m : methods()) {
            if (m.getName().equals(name)) {
                Object[] numbers = numbers(told, m.getParameterTypes());
                return ((Number) m.invoke(x, numbers)).longValue();
            }
        }
        throw new IllegalArgumentException(name);
    }

    private static Object[] numbers(String told, Class<?>[] types) {
        String[] words = told.isEmpty() ? new String[0] : told.split(", ");
        Object[] numbers = new Object[words.length];
        for (int i = 0; i < words.length; i++) {
            long number = words[i].startsWith("'") ? words[i].charAt(1) : Long.parseLong(words[i]);
            if (types[i] == long.class) {
                numbers[i] = number;
            } else {
                numbers[i] = (int) number;
            }
        }
        return numbers;
    }

    private static List<Method> methods() {
        return List.of(SpadeRings.class.getMethods()).stream()
                .filter(m -> m.getDeclaringClass() == SpadeRings.class).toList();
    }
}
