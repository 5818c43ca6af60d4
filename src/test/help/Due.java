import java.nio.charset.StandardCharsets;

/** Counts the answers that are not the ones that are due. */
public final class Due {
  private static int asked = 0;
  private static int wrong = 0;
  private static String within = "";

  private Due() {}

  /** What is told ahead of each call that is not as due. */
  static void within(String name) {
    within = name;
  }

  static int asked() {
    return asked;
  }

  static void is(String call, long got, long want) {
    asked++;
    if (got != want) {
      wrong++;
      if (wrong <= 40) System.out.println(within + call + " answered " + got + ", due is " + want);
    }
  }

  /** Each answer of some about(what), so that a test sees that nothing is changed. */
  static String state(StoneSoup x) {
    StringBuilder all = new StringBuilder();
    for (int what = 0; what <= 9; what++) all.append(x.about(what)).append(' ');
    return all.append(x.fault()).toString();
  }

  static void same(String call, String got, String want) {
    asked++;
    if (!got.equals(want)) {
      wrong++;
      if (wrong <= 40) System.out.println(within + call + ": " + got + ", due is " + want);
    }
  }

  static void tell(StoneSoup x, String text) {
    x.wipe();
    for (byte letter : text.getBytes(StandardCharsets.ISO_8859_1)) x.write(letter & 255);
  }

  static StoneSoup of(String text) {
    StoneSoup x = new StoneSoup();
    tell(x, text);
    int made = x.town();
    if (made < 0) is("town() of " + text, made, (text.length() - 1) / 8);
    return x;
  }

  static void end() {
    System.out.println(asked + " answers, " + wrong + " not as due");
    if (wrong != 0 || asked == 0) System.exit(1);
  }
}
