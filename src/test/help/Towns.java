import java.math.BigInteger;
import java.util.function.Supplier;

/** Towns and evenings that many tests begin with. */
public final class Towns {
  static final int UNKNOWN = -1, BAD = -2, LATE = -3, FULL = -4, NONE = -9;
  static final int MIN = Integer.MIN_VALUE, MAX = Integer.MAX_VALUE;

  static final String NOBODY = "S";
  /** One who gives always. */
  static final String ONE = "SPa--09-5";
  /** One who waits for itself. */
  static final String NEVER = "SPa--0905";
  /** Three who give always, two of them the same thing. */
  static final String FREE = "SPa--09-2Pa--09-0Pb--09-5";
  /** One free, one who needs a, one who hates a, one behind the second: pots 0 1 3 4 5 7 11 15. */
  static final String FOUR = "SPa--09-2Pba-09-3Pc-a09-4Pd--1915";
  /** Two who bar each other, and one who never gives. */
  static final String RIVALS = "SPa-b09-1Pb-a09-1Pc--0921";
  /** Six who give always, each another thing. */
  static final String SIX = "SPa--09-1Pb--09-1Pc--09-1Pd--09-1Pe--09-1Pf--09-1";
  /** Six who give always, of the greatest worth that can be. */
  static final String GREATEST = "SPa--09-9Pb--09-9Pc--09-9Pd--09-9Pe--09-9Pf--09-9";
  /** Six who give always, one thing that is worth nothing. */
  static final String LEAST = "SPa--09-0Pa--09-0Pa--09-0Pa--09-0Pa--09-0Pa--09-0";
  /** Six, each of whom needs what the one ahead gives. */
  static final String CHAIN = "SPa--09-1Pba-09-1Pcb-09-1Pdc-09-1Ped-09-1Pfe-09-1";
  /** Six of whom whoever gives first is the only one. */
  static final String LONELY = "SPa--00-1Pb--00-1Pc--00-1Pd--00-1Pe--00-1Pf--00-1";

  /** No person of a town of four, some of them such as a shift by them would take for one. */
  static final int[] NO_PERSON_OF_FOUR = {-1, 4, 5, 6, 31, 32, 33, 64, 256, -32, -256, MIN, MIN + 1, MAX};
  /** No pot of a town of four. */
  static final int[] NO_POT_OF_FOUR = {-1, -2, -16, 16, 17, 31, 32, 63, 64, 65536, MIN, MIN + 1, MAX};
  static final int[] NO_SLOT = {-1, 2, 3, 31, 32, 64, 256, -32, MIN, MIN + 1, MAX};

  interface Call {
    long on(StoneSoup x);
  }

  private Towns() {}

  static StoneSoup told(String text) {
    StoneSoup x = new StoneSoup();
    Due.tell(x, text);
    return x;
  }

  static StoneSoup given(String town, int... people) {
    StoneSoup x = Due.of(town);
    int count = 0;
    for (int p : people) Due.is(town + " ask(" + p + ")", x.ask(p), ++count);
    return x;
  }

  /** Nobody has given, and the lid was lifted and put on once for each doubt. */
  static StoneSoup doubting(String town, int doubt) {
    StoneSoup x = Due.of(town);
    for (int i = 0; i < doubt; i++) {
      x.lid();
      x.lid();
    }
    Due.is("doubt to begin with", x.about(4), doubt);
    return x;
  }

  /** Something of everything, so that what is changed where nothing may be is seen. */
  static StoneSoup midway() {
    StoneSoup x = Due.of(FOUR);
    x.lid();
    x.keep(0);
    x.ask(3);
    x.ask(2);
    x.keep(1);
    x.lid();
    x.ask(0);
    x.lid();
    x.see(5, 2, true);
    x.see(0, 0, false);
    x.seed(77L);
    Due.tell(x, "SPb--09-1Pd-b0937");
    return x;
  }

  /** A text of 56, of which the first 49 are a town, six things seen and 16 acts. */
  static StoneSoup brimful() {
    StoneSoup x = Due.of(SIX);
    for (int i = 0; i < 7; i++) x.write('P');
    for (int i = 0; i < 6; i++) x.see(63, i, i > 2);
    for (int i = 0; i < 6; i++) x.ask(i);
    for (int i = 0; i < 10; i++) x.lid();
    x.seed(-1L);
    return x;
  }

  static String with(String text, int place, char letter) {
    return text.substring(0, place) + letter + text.substring(place + 1);
  }

  /** A call answers as is due, and leaves all as it was. */
  static void unchanged(String name, Supplier<StoneSoup> start, Call call, long want) {
    StoneSoup x = start.get();
    Due.is(name, call.on(x), want);
    Due.same("all behind " + name, all(x), all(start.get()));
  }

  /** All that can be told of an object; it is used up by that. */
  static String all(StoneSoup x) {
    StringBuilder s = new StringBuilder(Due.state(x));
    people(x, s);
    long seed = x.seed(0L);
    x.seed(seed);
    s.append(" seed ").append(seed).append(" laws ").append(x.toShow());
    for (int what = 0; what <= 2; what++) s.append(' ').append(x.laws(what)).append(' ').append(x.canBe(what));
    s.append(" undo");
    for (int i = 0; i < 17; i++) {
      s.append(' ').append(x.undo());
      soup(x, s);
    }
    for (int slot = 0; slot <= 1; slot++) {
      s.append(" again ").append(x.again(slot));
      soup(x, s);
    }
    s.append(" town ").append(x.town());
    people(x, s);
    return s.append(' ').append(Due.state(x)).toString();
  }

  private static void people(StoneSoup x, StringBuilder s) {
    int people = x.about(0);
    for (int p = 0; p < people; p++)
      for (int what = 0; what <= 6; what++) s.append(' ').append(x.person(p, what));
  }

  private static void soup(StoneSoup x, StringBuilder s) {
    s.append(' ').append(x.about(1)).append(' ').append(x.about(4)).append(' ').append(x.about(5));
  }

  /** What the seed becomes, by numbers that do not wrap by themselves. */
  static long stepped(long seed) {
    return BigInteger.valueOf(seed)
        .multiply(new BigInteger("6364136223846793005"))
        .add(new BigInteger("1442695040888963407"))
        .longValue();
  }

  /** Whom a seed that was stepped asks. */
  static int drawn(long seed, int people) {
    BigInteger unsigned = BigInteger.valueOf(seed).mod(BigInteger.ONE.shiftLeft(64));
    return unsigned.shiftRight(33).mod(BigInteger.valueOf(people)).intValue();
  }
}
