import java.io.IOException;
import java.lang.reflect.Method;
import java.nio.file.Files;
import java.nio.file.Path;
import java.util.List;
import java.util.regex.Matcher;
import java.util.regex.Pattern;

/** What README.md shows is so. Runs in the project's folder. */
public final class ReadmeTest {
  private static final Pattern MADE = Pattern.compile("^StoneSoup soup = new StoneSoup\\(\\);.*");
  private static final Pattern TOLD = Pattern.compile("^for \\(char letter : \"([^\"]*)\"\\.toCharArray\\(\\)\\) soup\\.write\\(letter\\);");
  private static final Pattern CALL = Pattern.compile("^soup\\.(\\w+)\\(([^)]*)\\);\\s+// (-?\\d+).*");
  private static final int MOST_CALLS = 512;

  private StoneSoup soup;
  private int calls = 0;
  private int shown = 0;

  private static Method named(String name) {
    for (Method m : StoneSoup.class.getDeclaredMethods()) if (m.getName().equals(name)) return m;
    throw new IllegalArgumentException("README.md shows a call that there is not: " + name);
  }

  private static Object argument(Class<?> type, String told) {
    if (type == boolean.class) return Boolean.valueOf(told);
    if (type == long.class) return Long.valueOf(told);
    return Integer.valueOf(told);
  }

  private long answer(String name, String told) throws ReflectiveOperationException {
    Method call = named(name);
    String[] parts = told.isEmpty() ? new String[0] : told.split(", ");
    Class<?>[] types = call.getParameterTypes();
    Object[] arguments = new Object[types.length];
    for (int i = 0; i < types.length; i++) arguments[i] = argument(types[i], parts[i]);
    return ((Number) call.invoke(soup, arguments)).longValue();
  }

  /** A line of the page's code: all of them are of one long run, which a new object begins anew. */
  private void line(String line) throws ReflectiveOperationException {
    Matcher told = TOLD.matcher(line);
    Matcher call = CALL.matcher(line);
    if (MADE.matcher(line).matches()) {
      soup = new StoneSoup();
      calls = 0;
    } else if (told.matches()) {
      for (char letter : told.group(1).toCharArray()) soup.write(letter);
      calls += told.group(1).length();
    } else if (call.matches()) {
      Due.is("README.md: " + line, answer(call.group(1), call.group(2)), Long.parseLong(call.group(3)));
      calls++;
      shown++;
    } else {
      Due.same("README.md: a line that the test can not read", line, "");
    }
  }

  private void run(List<String> page) throws ReflectiveOperationException {
    boolean code = false;
    for (String line : page) {
      if (line.startsWith("```")) code = line.equals("```java");
      else if (code && !line.startsWith("@Sentence") && !line.startsWith("static void")) line(line);
    }
    Due.is("README.md: calls of one object beyond what is promised", Math.max(calls, MOST_CALLS), MOST_CALLS);
    Due.is("README.md shows some calls", shown > 0 ? 1 : 0, 1);
  }

  /** Its name and arguments, as the document gives them, lead a row of the table. */
  private static void rowsOfCalls(List<String> page) throws IOException {
    Pattern face = Pattern.compile("^    public (?:int|long) (\\w+)\\((.*)\\) \\{$");
    int count = 0;
    for (String line : Files.readAllLines(Path.of("src/main/java/StoneSoup.java"))) {
      Matcher m = face.matcher(line);
      if (!m.matches()) continue;
      String head = "| `" + m.group(1) + "(" + m.group(2).replaceAll("\\w+ (\\w+)", "$1") + ")` | ";
      Due.is("README.md: rows that begin with " + head, page.stream().filter(row -> row.startsWith(head)).count(), 1);
      count++;
    }
    Due.is("calls of the face", count, 32);
  }

  public static void main(String[] args) throws Exception {
    List<String> page = Files.readAllLines(Path.of("README.md"));
    new ReadmeTest().run(page);
    rowsOfCalls(page);
    Due.end();
  }
}
