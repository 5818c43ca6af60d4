import java.io.IOException;
import java.nio.file.Files;
import java.nio.file.Path;
import java.util.ArrayList;
import java.util.List;
import java.util.Map;
import java.util.TreeMap;
import java.util.regex.Matcher;
import java.util.regex.Pattern;
import java.util.stream.Stream;

/** Each word of the terms and of the promises is held by some test of sentences. Runs in the project's folder. */
public final class EverySentenceTest {
  private static final Pattern SENTENCE = Pattern.compile("@Sentence\\(of = \"([^\"]+)\", says = \"([^\"]+)\"\\)");
  /** What of the terms is no sentence of its own, but the name of what is told then. */
  private static final List<String> NAMES = List.of(
      "Ahead of the calls", "FAULT:", "are a row", "It CAN BE:", "ROW to a POT:", "BEST:", "HOW SOON one gives:", "JUDGED:",
      "SHARE of one in a POT:", "CONTENT:", "RESTS:", "BY TURNS:", "SEEN of some stranger:", "TO SHOW:", "TASTE:",
      "AN EVENING by THE SEED:", "REFUSALS:");

  private static Map<String, List<String>> held() throws IOException {
    Map<String, List<String>> held = new TreeMap<>();
    List<Path> files;
    try (Stream<Path> all = Files.list(Path.of("src/test/java"))) {
      files = all.filter(f -> f.toString().endsWith("Bounds.java")).toList();
    }
    for (Path file : files)
      for (Matcher m = SENTENCE.matcher(Files.readString(file)); m.find(); )
        held.computeIfAbsent(m.group(1), k -> new ArrayList<>()).add(m.group(2));
    return held;
  }

  /** What is left of a part, when what is held is taken out of it. */
  private static String left(String part, List<String> held) {
    boolean[] taken = new boolean[part.length()];
    for (String says : held)
      for (int at = part.indexOf(says); at >= 0; at = part.indexOf(says, at + 1))
        for (int i = at; i < at + says.length(); i++) taken[i] = true;
    StringBuilder left = new StringBuilder();
    for (int i = 0; i < taken.length; i++) left.append(taken[i] ? '\n' : part.charAt(i));
    return left.toString();
  }

  private static String withoutNames(String left) {
    String text = left.replaceAll("(?s)Ahead of the calls.*", "").replaceAll("## \\S+|======== \\d", "");
    for (String name : NAMES) text = text.replace(name, "");
    return text.replaceAll("[^A-Za-z0-9]+", " ").strip();
  }

  public static void main(String[] args) throws Exception {
    Map<String, String> told = Sentences.parts();
    if (told.isEmpty()) {
      System.out.println("there is no document beside this");
      return;
    }
    Map<String, List<String>> held = held();
    for (int i = 1; i <= 4; i++) {
      String name = "Terms " + i;
      String left = withoutNames(left(told.getOrDefault(name, name), held.getOrDefault(name, List.of())));
      Due.same("what no test holds of " + name, left, "");
    }
    for (int i = 1; i <= 33; i++) {
      String name = "Promise " + i;
      String part = told.getOrDefault(name, "`: " + name);
      String words = part.substring(part.indexOf("`: ") + 3);
      Due.same("what no test holds of " + name, withoutNames(left(words, held.getOrDefault(name, List.of()))), "");
    }
    Due.end();
  }
}
