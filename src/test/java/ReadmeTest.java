import java.lang.reflect.Method;
import java.nio.file.Files;
import java.nio.file.Paths;
import java.util.ArrayList;
import java.util.List;
import java.util.regex.Matcher;
import java.util.regex.Pattern;

/** The examples of README.md, read from there and called line by line: each answers what stands behind it. */
public final class ReadmeTest extends Checks {
    private static final Pattern MADE = Pattern.compile("LoadBook book = new LoadBook\\(\\);");
    private static final Pattern TYPED = Pattern.compile("type\\(book, \"([^\"]*)\"\\);");
    private static final Pattern ASKED = Pattern.compile("book\\.(\\w+)\\(([^()]*)\\);\\s*// (-?\\d+)[:;,].*");
    private static final Pattern REAL =
        Pattern.compile("Double\\.longBitsToDouble\\(book\\.value\\((\\d+)\\)\\);\\s*// (-?\\d+\\.\\d+)[:;,].*");
    private int asked;

    private ReadmeTest() {
        super("of README.md");
    }

    public static void main(String[] args) throws Exception {
        ReadmeTest test = new ReadmeTest();
        boolean example = false;
        for (String line : Files.readAllLines(Paths.get("README.md"))) {
            if (line.startsWith("```")) {
                example = line.equals("```java");
            } else if (example && !isHelper(line)) {
                test.follow(line);
            }
        }
        test.due("there are examples", test.asked > 20 ? 1 : 0, 1);
        end("ReadmeTest");
    }

    /** The example that shows how a text is typed: Checks has the like of it. */
    private static boolean isHelper(String line) {
        return line.startsWith("static ") || line.startsWith(" ") || line.equals("}");
    }

    private void follow(String line) throws Exception {
        Matcher typed = TYPED.matcher(line);
        Matcher call = ASKED.matcher(line);
        Matcher real = REAL.matcher(line);
        if (MADE.matcher(line).matches()) {
            x = new LoadBook();
        } else if (typed.matches()) {
            type(typed.group(1));
        } else if (call.matches()) {
            asked++;
            due(line, answer(call.group(1), call.group(2)), Long.parseLong(call.group(3)));
        } else if (real.matches()) {
            asked++;
            long want = Double.doubleToRawLongBits(Double.parseDouble(real.group(2)));
            due(line, x.value(Integer.parseInt(real.group(1))), want);
        } else {
            due("a line that can't be read: " + line, 0, 1);
        }
    }

    private long answer(String name, String given) throws Exception {
        List<Long> values = new ArrayList<>();
        for (String one : given.isEmpty() ? new String[0] : given.split(", ")) {
            values.add(Long.decode(one.replaceAll("L$", "")));
        }
        for (Method m : LoadBook.class.getMethods()) {
            if (m.getName().equals(name) && m.getParameterCount() == values.size()) {
                Object[] all = new Object[values.size()];
                for (int i = 0; i < all.length; i++) {
                    boolean isLong = m.getParameterTypes()[i] == long.class;
                    all[i] = isLong ? (Object) values.get(i) : (Object) (int) (long) values.get(i);
                }
                return ((Number) m.invoke(x, all)).longValue();
            }
        }
        throw new IllegalArgumentException("LoadBook has no " + name + " of " + values.size());
    }
}
