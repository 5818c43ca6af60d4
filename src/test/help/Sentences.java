import java.io.IOException;
import java.lang.reflect.InvocationTargetException;
import java.lang.reflect.Method;
import java.nio.file.Files;
import java.nio.file.Path;
import java.util.Comparator;
import java.util.Map;
import java.util.TreeMap;
import java.util.stream.Stream;

/** Runs the tests of sentences, and sees that each sentence stands in the document. */
public final class Sentences {
  private static final Path DOCUMENT = Path.of("../shared/DOC.md");

  private Sentences() {}

  /** Each method with a sentence is a test of its own; one that asks nothing fails. */
  static void hold(Class<?> tests) throws IOException {
    Map<String, String> told = parts();
    int count = 0;
    for (Method test : inOrder(tests)) {
      Sentence sentence = test.getAnnotation(Sentence.class);
      String name = sentence.of() + ", \"" + sentence.says() + "\", " + test.getName() + ": ";
      if (told.containsKey("What it is")) {
        boolean stands = told.getOrDefault(sentence.of(), "").contains(sentence.says());
        Due.is(name + "the document says it", stands ? 1 : 0, 1);
      }
      Due.within(name);
      int before = Due.asked();
      run(test);
      Due.is("some answer was asked", Due.asked() > before ? 1 : 0, 1);
      Due.within("");
      count++;
    }
    System.out.println(count + " sentences");
    Due.is("there are sentences", count > 0 ? 1 : 0, 1);
    Due.end();
  }

  private static void run(Method test) {
    try {
      test.setAccessible(true);
      test.invoke(null);
    } catch (InvocationTargetException | IllegalAccessException thrown) {
      Due.same("it threw", String.valueOf(thrown.getCause()), "nothing");
    }
  }

  private static Method[] inOrder(Class<?> tests) {
    return Stream.of(tests.getDeclaredMethods())
        .filter(m -> m.isAnnotationPresent(Sentence.class))
        .sorted(Comparator.comparing(Method::getName))
        .toArray(Method[]::new);
  }

  /** The document in its parts, each on one line; none, where there is no document beside this. */
  static Map<String, String> parts() throws IOException {
    Map<String, String> parts = new TreeMap<>();
    if (!Files.isReadable(DOCUMENT)) return parts;
    String name = "";
    for (String line : Files.readString(DOCUMENT).split("\n")) {
      if (line.startsWith("## Promise ")) name = line.substring(3, line.indexOf(':'));
      else if (line.startsWith("## Terms")) name = "Terms 1";
      else if (line.startsWith("## ")) name = line.substring(3);
      else if (line.startsWith("======== ")) name = "Terms " + line.charAt(9);
      if (!line.startsWith("```")) parts.merge(name, line, (a, b) -> a + " " + b);
    }
    parts.replaceAll((k, text) -> text.replaceAll("\\s+", " "));
    return parts;
  }
}
