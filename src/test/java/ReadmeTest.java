import java.io.IOException;
import java.lang.reflect.Method;
import java.lang.reflect.Modifier;
import java.nio.file.Files;
import java.nio.file.Path;
import java.util.regex.Matcher;
import java.util.regex.Pattern;

/** Makes the calls that README.md shows, on one desk, and looks whether it answers what is told there. */
public final class ReadmeTest {
    private static final Due due = new Due("ReadmeTest");
    private static final Pattern ROW = Pattern.compile("(?m)^desk\\.(\\w+)\\(([-\\w, ]*)\\); +// (-?\\d+)(:|$)");

    public static void main(String[] args) throws IOException, ReflectiveOperationException {
        String readme = Files.readString(Path.of("README.md"));
        TileDesk desk = new TileDesk();
        int rows = 0;
        Matcher row = ROW.matcher(readme);
        while (row.find()) {
            rows++;
            due.is(row.group(), answer(desk, row.group(1), row.group(2)), Integer.parseInt(row.group(3)));
        }
        due.is("rows that begin with desk. and tell an answer", rows, readme.split("\ndesk\\.", -1).length - 1);
        due.is("there are rows", rows > 0 ? 1 : 0, 1);
        for (Method call : TileDesk.class.getDeclaredMethods()) {
            boolean named = readme.contains("`" + call.getName() + "`");
            due.is("README.md names " + call.getName(), named || !Modifier.isPublic(call.getModifiers()) ? 1 : 0, 1);
        }
        due.end();
    }

    private static int answer(TileDesk desk, String name, String words) throws ReflectiveOperationException {
        String[] numbers = words.split(", ");
        for (Method call : TileDesk.class.getMethods()) {
            if (call.getName().equals(name)) {
                Object[] given = new Object[call.getParameterCount()];
                for (int k = 0; k < given.length; k++) {
                    boolean isNumber = call.getParameterTypes()[k] == int.class;
                    given[k] = isNumber ? (Object) Integer.valueOf(numbers[k]) : Boolean.valueOf(numbers[k]);
                }
                return (int) call.invoke(desk, given);
            }
        }
        throw new IllegalStateException("no call " + name);
    }
}
