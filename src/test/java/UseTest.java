import java.io.IOException;
import java.lang.reflect.Method;
import java.nio.file.Files;
import java.nio.file.Path;
import java.util.List;
import java.util.regex.Matcher;
import java.util.regex.Pattern;

/** Makes the calls that README.md shows, in its order, so that what it says of them stays true. */
public final class UseTest {
    private static final Pattern CALL = Pattern.compile("house\\.(\\w+)\\((.*?)\\);(?: *// (.*))?");
    private static final Pattern ANSWER = Pattern.compile("(-?\\d+|true|false)\\b.*");
    private static final String OUT_IS = "THE OUT is ";

    private static Due house = new Due("README.md");
    private static int calls = 0;

    public static void main(String[] args) throws IOException, ReflectiveOperationException {
        String block = "";
        StringBuilder program = new StringBuilder();
        for (String line : readme()) {
            if (line.startsWith("```")) {
                block = line.substring(3);
            } else if (block.equals("text")) {
                program.append(line).append('\n');
            } else if (block.equals("java")) {
                if (program.length() > 0) {
                    house.feed(program.toString());
                    program.setLength(0);
                }
                makeCall(line);
            }
        }
        house.is("calls in README.md, more than 30", calls > 30, true);
        Due.close();
    }

    private static List<String> readme() throws IOException {
        return Files.readAllLines(Path.of("README.md"));
    }

    private static void makeCall(String line) throws ReflectiveOperationException {
        Matcher call = CALL.matcher(line);
        if (!call.matches()) {
            house.is("a line of README.md", line, "MarkHouse house = new MarkHouse();");
            house = new Due("README.md");
            return;
        }
        calls++;
        String got = answer(call.group(1), call.group(2).split(", *"));
        String said = call.group(3) == null ? "" : call.group(3);
        Matcher due = ANSWER.matcher(said);
        house.is(line, got, due.matches() ? due.group(1) : "null");
        int at = said.indexOf(OUT_IS);
        if (at >= 0) {
            house.is(line, house.out(), said.substring(at + OUT_IS.length()));
        }
    }

    private static String answer(String name, String[] told) throws ReflectiveOperationException {
        for (Method method : MarkHouse.class.getMethods()) {
            if (method.getName().equals(name) && method.getDeclaringClass() == MarkHouse.class) {
                Class<?>[] sorts = method.getParameterTypes();
                Object[] values = new Object[sorts.length];
                for (int i = 0; i < sorts.length; i++) {
                    values[i] = sorts[i] == int.class ? (Object) Integer.decode(told[i]) : Boolean.valueOf(told[i]);
                }
                return String.valueOf(method.invoke(house.x, values));
            }
        }
        return "no such call";
    }
}
