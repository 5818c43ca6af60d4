import java.lang.reflect.Constructor;
import java.lang.reflect.Field;
import java.lang.reflect.Method;
import java.lang.reflect.Modifier;
import java.nio.file.Files;
import java.nio.file.Path;
import java.util.ArrayList;
import java.util.List;
import java.util.Set;
import java.util.TreeSet;
import java.util.regex.Matcher;
import java.util.regex.Pattern;

/** What of ../shared/LANGUAGE.md can be seen without a reader. Runs in the project's folder. */
public final class LanguageTest {
  private static final String[] FACE = {
    "int write(int)", "int wipe()", "int fault()", "int town()", "int about(int)",
    "int person(int,int)", "int ask(int)", "int lid()", "int undo()", "int would(int,int)",
    "int worth(int)", "int canBe(int)", "int rowAt(int,int)", "int rows(int)", "int best(int)",
    "int howSoon(int)", "int bars(int)", "int judged(int,int)", "int share(int,int,boolean)",
    "int content()", "int rests(int)", "int byTurns(int)", "int see(int,int,boolean)",
    "int unsee()", "int laws(int)", "int toShow()", "int taste(int,int,int)",
    "int luck(int,int,int,int,boolean)", "long seed(long)", "int evening(int)", "int keep(int)",
    "int again(int)"
  };
  private static final String[] BANNED = {
    "\\b(throw|throws|try|catch|finally|synchronized|assert|volatile|native|transient)\\b",
    "\\b(import|package|double|float|Object|Class|Thread|Random|Runtime)\\b",
    "->", "::", "\\bstatic\\s*\\{", "Exact\\s*\\(", "\\bSystem\\b", "\\bwhile\\b", "\"",
    "\\.(equals|hashCode|toString|getClass)\\b"
  };

  private static String signature(Method m) {
    StringBuilder s = new StringBuilder(m.getReturnType().getSimpleName() + " " + m.getName() + "(");
    for (Class<?> type : m.getParameterTypes()) {
      s.append(s.charAt(s.length() - 1) == '(' ? "" : ",").append(type.getSimpleName());
    }
    return s.append(")").toString();
  }

  private static void face() {
    Class<?> c = StoneSoup.class;
    Set<String> open = new TreeSet<>();
    for (Method m : c.getDeclaredMethods()) if (!Modifier.isPrivate(m.getModifiers())) open.add(signature(m));
    Due.same("methods that are not private", open.toString(), new TreeSet<>(List.of(FACE)).toString());
    Set<String> fields = new TreeSet<>();
    for (Field f : c.getDeclaredFields()) if (!Modifier.isPrivate(f.getModifiers())) fields.add(f.getName());
    Due.same("fields that are not private", fields.toString(), "[BAD, FULL, LATE, NONE, UNKNOWN]");
    Constructor<?>[] made = c.getDeclaredConstructors();
    Due.is("constructors", made.length, 1);
    Due.is("parameters of it", made[0].getParameterCount(), 0);
    Due.is("it is public", made[0].getModifiers(), Modifier.PUBLIC);
    Due.is("the class is public and final", c.getModifiers(), Modifier.PUBLIC | Modifier.FINAL);
  }

  private static void inside(Class<?> c) {
    int fields = 0;
    for (Field f : c.getDeclaredFields()) {
      boolean isStatic = Modifier.isStatic(f.getModifiers());
      fields += isStatic ? 0 : 1;
      Due.is(f + " is final, if it is static", isStatic && !Modifier.isFinal(f.getModifiers()) ? 1 : 0, 0);
    }
    Due.is(c + " has twenty fields at most", Math.max(fields, 20), 20);
    Set<String> names = new TreeSet<>();
    for (String told : FACE) names.add(told.substring(told.indexOf(' ') + 1, told.indexOf('(')));
    for (Method m : c.getDeclaredMethods()) {
      Due.is(m + " has seven parameters at most", Math.max(m.getParameterCount(), 7), 7);
      boolean own = c == StoneSoup.class && Modifier.isPublic(m.getModifiers());
      Due.is(m + " bears a name of the face", !own && names.contains(m.getName()) ? 1 : 0, 0);
    }
    if (c != StoneSoup.class) {
      Due.is(c + " is static", Modifier.isStatic(c.getModifiers()) ? 1 : 0, 1);
      Due.is(c + " is public or protected", c.getModifiers() & (Modifier.PUBLIC | Modifier.PROTECTED), 0);
    }
  }

  private static int count(String pattern, String text) {
    int count = 0;
    for (Matcher m = Pattern.compile(pattern).matcher(text); m.find(); ) count++;
    return count;
  }

  private static void text(String source) {
    Due.is("signs beyond 127", source.chars().filter(c -> c > 127 || c == 0).count(), 0);
    String code = source.replaceAll("(?s)/\\*.*?\\*/", "").replaceAll("//[^\n]*", "");
    for (String banned : BANNED) Due.is(banned + " in the code", count(banned, code), 0);
    // an index is used in the two places that look at it first, and nowhere else
    Due.is("uses of an index", count("[A-Za-z0-9_)\\]]\\[[^\\]]", code.replaceAll("\\bnew int\\[", "")), 2);
    Due.is("row[i] behind a test", count("i >= 0 && i < row\\.length", code), 2);
    // an object is made in a constructor or with a field alone
    Due.is("objects made", count("\\bnew\\b", code), count("(?m)^        \\w+ = new \\w+\\(\\);$", code)
        + count("(?m)^        private final int\\[\\] \\w+ = new int\\[[^\\]]+\\];$", code));
    int length = 0;
    for (String line : source.split("\n", -1)) {
      length = line.isBlank() ? 0 : length + 1;
      if (length > 60) Due.is("lines on end without a gap at: " + line, length, 60);
    }
  }

  public static void main(String[] args) throws Exception {
    face();
    List<Class<?>> classes = new ArrayList<>(List.of(StoneSoup.class));
    classes.addAll(List.of(StoneSoup.class.getDeclaredClasses()));
    Due.is("twelve classes at most", Math.max(classes.size(), 12), 12);
    for (Class<?> c : classes) inside(c);
    text(Files.readString(Path.of("src/main/java/StoneSoup.java")));
    Due.end();
  }
}
