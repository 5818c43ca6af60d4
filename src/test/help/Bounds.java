/** What the tests of sentences share: the towns and the constants by their short names. */
public abstract class Bounds {
  static final int UNKNOWN = Towns.UNKNOWN, BAD = Towns.BAD, LATE = Towns.LATE, FULL = Towns.FULL, NONE = Towns.NONE;
  static final int MIN = Towns.MIN, MAX = Towns.MAX;
  static final String ONE = Towns.ONE, NEVER = Towns.NEVER, FREE = Towns.FREE, FOUR = Towns.FOUR, RIVALS = Towns.RIVALS;
  static final String SIX = Towns.SIX, GREATEST = Towns.GREATEST, LEAST = Towns.LEAST;
  static final String CHAIN = Towns.CHAIN, LONELY = Towns.LONELY;

  /** A new object to which some of things, gave, gives (1 or 0) was shown. */
  static StoneSoup seen(int... shown) {
    StoneSoup x = new StoneSoup();
    for (int i = 0; i + 2 < shown.length; i += 3)
      Due.is("see", x.see(shown[i], shown[i + 1], shown[i + 2] == 1), i / 3 + 1);
    return x;
  }
}
