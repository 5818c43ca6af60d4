/** Promises 24 to 31: each sentence that names a boundary case. */
public final class GuessedBounds extends Bounds {
  private static final int[] NO_TWO = {MIN, MIN + 1, -2, -1, 2, 3, 32, 33, 64, 256, MAX};
  private static final int[] NO_THREE = {MIN, MIN + 1, -3, -1, 3, 4, 32, 33, 64, 256, MAX};

  @Sentence(of = "Promise 24", says = "SEEN: how many there are.")
  static void howManyAreSeen() {
    for (boolean gives : new boolean[] {true, false}) {
      StoneSoup x = new StoneSoup();
      for (int i = 1; i <= 6; i++) {
        Due.is("see, " + i, x.see(i % 2 * 63, i, gives), i);
        Due.is("about(8)", x.about(8), i);
      }
    }
    // the same once more is one more, and so is what speaks against it
    StoneSoup y = new StoneSoup();
    for (int i = 1; i <= 6; i++) Due.is("see(0, 0), " + i, y.see(0, 0, i % 2 == 0), i);
    for (int things = 0; things <= 63; things++)
      for (int gave = 0; gave <= 6; gave++) Due.is("see(" + things + ", " + gave + ")", new StoneSoup().see(things, gave, true), 1);
  }

  @Sentence(of = "Promise 24", says = "BAD: things (bits of 6), gave (0 .. 6); FULL: 6.")
  static void whatCanNotBeSeen() {
    for (boolean gives : new boolean[] {true, false}) {
      for (int things : new int[] {MIN, MIN + 1, -64, -63, -1, 64, 65, 127, 128, 256, MAX}) {
        Towns.unchanged("see(" + things + ", 0)", Towns::midway, x -> x.see(things, 0, gives), BAD);
        Towns.unchanged("see(" + things + ", 0), full", Towns::brimful, x -> x.see(things, 0, gives), BAD);
      }
      for (int gave : new int[] {MIN, MIN + 1, -6, -1, 7, 8, 9, 32, 64, 256, MAX}) {
        Towns.unchanged("see(0, " + gave + ")", Towns::midway, x -> x.see(0, gave, gives), BAD);
        Towns.unchanged("see(0, " + gave + "), full", Towns::brimful, x -> x.see(0, gave, gives), BAD);
      }
      Towns.unchanged("see(0, 0), full", Towns::brimful, x -> x.see(0, 0, gives), FULL);
      Towns.unchanged("see(63, 6), full", Towns::brimful, x -> x.see(63, 6, gives), FULL);
    }
  }

  @Sentence(of = "Promise 25", says = "Nothing is SEEN: how much there was.")
  static void nothingIsSeen() {
    for (int count = 0; count <= 6; count++) {
      StoneSoup x = new StoneSoup();
      for (int i = 0; i < count; i++) x.see(9 * i, i, i % 2 == 0);
      Due.is("unsee() of " + count, x.unsee(), count);
      Due.is("about(8)", x.about(8), 0);
      Due.is("laws(0)", x.laws(0), 343);
      Due.is("laws(1)", x.laws(1), 0);
      Due.is("laws(2)", x.laws(2), 0);
      Due.is("toShow()", x.toShow(), 15);
      Due.is("unsee() again", x.unsee(), 0);
      Due.is("see", x.see(0, 0, true), 1);
      Due.is("laws(0) of one", x.laws(0), 7);
    }
    StoneSoup y = Towns.midway();
    y.unsee();
    y.see(5, 2, true);
    y.see(0, 0, false);
    Due.same("all but what was seen stays", Towns.all(y), Towns.all(Towns.midway()));
  }

  private static void lawsAre(String name, StoneSoup x, int fit, int needs, int hates) {
    Due.is("laws(0), " + name, x.laws(0), fit);
    Due.is("laws(1), " + name, x.laws(1), needs);
    Due.is("laws(2), " + name, x.laws(2), hates);
  }

  @Sentence(of = "Promise 26", says = "LAWS that FIT: how many (what = 0), THINGS that are n in all (1: bits), x in all (2: bits); NONE (of 1, 2): none fits.")
  static void laws() {
    lawsAre("nothing is seen", new StoneSoup(), 343, 0, 0);
    lawsAre("none fits", seen(5, 3, 1, 5, 3, 0), 0, NONE, NONE);
    for (int i = 0; i < 6; i++) {
      lawsAre("n is " + i, seen(1 << i, 6, 1, 0, 6, 0), 42, 1 << i, 0);
      lawsAre("x is " + i, seen(63 - (1 << i), 6, 1, 63, 6, 0), 42, 0, 1 << i);
      lawsAre("one law, x is " + i, seen(0, 0, 1, 1 << i, 0, 0), 1, 0, 1 << i);
      int other = (i + 1) % 6;
      lawsAre("one law, n is " + i + ", x the next", seen(1 << i, 0, 1, 63 - (1 << i) - (1 << other), 0, 0, 1 << i | 1 << other, 0, 0), 1, 1 << i, 1 << other);
    }
    // all that can be seen six times, the least and the greatest that leave some
    lawsAre("six that are given to", seen(63, 6, 1, 63, 6, 1, 63, 6, 1, 63, 6, 1, 63, 6, 1, 63, 6, 1), 49, 0, 0);
    lawsAre("l is 6 and there is no n and no x", seen(0, 6, 1, 0, 5, 0, 63, 6, 1), 1, 0, 0);
    // n is a .. d and x the same, or n is e or f and x any thing: 16 times seven
    lawsAre("such as give to none of six", seen(63, 6, 0, 0, 6, 0, 1, 6, 0, 2, 6, 0, 4, 6, 0, 8, 6, 0), 112, 0, 0);
    Towns.unchanged("laws(0)", Towns::brimful, x -> x.laws(0), 7);
    Towns.unchanged("laws(1)", Towns::brimful, x -> x.laws(1), 0);
    Towns.unchanged("laws(2)", Towns::brimful, x -> x.laws(2), 0);
  }

  @Sentence(of = "Promise 26", says = "BAD.")
  static void lawsOfNothing() {
    for (int what : NO_THREE) {
      Towns.unchanged("laws(" + what + ")", Towns::midway, x -> x.laws(what), BAD);
      Towns.unchanged("laws(" + what + ") when none fits", () -> seen(0, 0, 1, 0, 0, 0), x -> x.laws(what), BAD);
    }
  }

  @Sentence(of = "Promise 27", says = "TO SHOW, as bits; NONE.")
  static void whatToShow() {
    Towns.unchanged("nothing is seen", StoneSoup::new, StoneSoup::toShow, 15);
    Towns.unchanged("none fits", () -> seen(0, 0, 1, 0, 0, 0), StoneSoup::toShow, NONE);
    Towns.unchanged("one fits", () -> seen(0, 6, 1, 0, 5, 0, 63, 6, 1), StoneSoup::toShow, 0);
    Towns.unchanged("the empty set", () -> seen(0, 1, 1, 63, 2, 1), StoneSoup::toShow, 0);
    Towns.unchanged("the full set", () -> seen(1, 6, 1, 1, 5, 0), StoneSoup::toShow, 63);
    Towns.unchanged("the last thing alone", () -> seen(0, 0, 1, 31, 0, 1), StoneSoup::toShow, 32);
    // seven laws, l 0 .. 6: three give where two things are (l 0, 1, 2), four where three are; the least of two
    Towns.unchanged("the least of two things", () -> seen(0, 6, 1, 63, 6, 1), StoneSoup::toShow, 3);
  }

  private static void tasteIs(String town, int k, int w, int count, int ofAll) {
    Towns.unchanged("taste(" + k + ", " + w + ", 0) of " + town, () -> Due.of(town), x -> x.taste(k, w, 0), count);
    Towns.unchanged("taste(" + k + ", " + w + ", 1) of " + town, () -> Due.of(town), x -> x.taste(k, w, 1), ofAll);
  }

  @Sentence(of = "Promise 28", says = "TASTE: how many (what = 0), who is of all (1: bits); NONE (of 1): there is none.")
  static void tastes() {
    tasteIs("S", 0, 0, 1, 0);
    tasteIs("S", 6, 99, 0, NONE);
    tasteIs(SIX, 0, 0, 1, 0);
    tasteIs(SIX, 0, 99, 0, NONE);
    tasteIs(SIX, 3, 12, 20, 0);
    tasteIs(SIX, 6, 24, 1, 63);
    tasteIs(SIX, 6, 0, 0, NONE);
    tasteIs(GREATEST, 6, 72, 1, 63);
    tasteIs(GREATEST, 6, 99, 0, NONE);
    tasteIs(LEAST, 6, 3, 1, 63);
    tasteIs(LONELY, 1, 4, 6, 0);
    tasteIs(CHAIN, 1, 4, 1, 1);
    tasteIs(Towns.with(SIX, 48, '2'), 2, 9, 5, 32);
    tasteIs(Towns.with(SIX, 48, '2'), 1, 5, 1, 32);
    tasteIs(NEVER, 1, 8, 0, NONE);
    Towns.unchanged("taste(0, 0, 0), whatever the pot is", Towns::midway, x -> x.taste(0, 0, 0), 1);
  }

  @Sentence(of = "Promise 28", says = "BAD: k (0 .. 6), w (0 .. 99), what.")
  static void noTaste() {
    for (int what = 0; what <= 1; what++) {
      int told = what;
      for (int k : new int[] {MIN, MIN + 1, -6, -1, 7, 8, 32, 64, 256, MAX}) Towns.unchanged("taste(" + k + ", 0, " + what + ")", Towns::midway, x -> x.taste(k, 0, told), BAD);
      for (int w : new int[] {MIN, MIN + 1, -99, -1, 100, 101, 128, 256, MAX}) Towns.unchanged("taste(0, " + w + ", " + what + ")", Towns::midway, x -> x.taste(0, w, told), BAD);
    }
    for (int what : NO_TWO) {
      Towns.unchanged("taste(0, 0, " + what + ")", Towns::midway, x -> x.taste(0, 0, what), BAD);
      Towns.unchanged("taste(6, 99, " + what + "), there is none", Towns::midway, x -> x.taste(6, 99, what), BAD);
    }
    Due.is("taste(7, 0, 0) of nobody", new StoneSoup().taste(7, 0, 0), BAD);
    Due.is("taste(0, 100, 0) of nobody", new StoneSoup().taste(0, 100, 0), BAD);
  }

  private static void luckIs(String town, int person, int n, int row, int tenths, int above, int below) {
    String call = "luck(" + person + ", " + n + ", " + row + ", " + tenths + ") of " + town;
    Towns.unchanged(call + " above", () -> Due.of(town), x -> x.luck(person, n, row, tenths, true), above);
    Towns.unchanged(call + " below", () -> Due.of(town), x -> x.luck(person, n, row, tenths, false), below);
  }

  @Sentence(of = "Promise 29", says = "LUCK.")
  static void luck() {
    luckIs(ONE, 0, 1, 0, 0, 0, 1);
    luckIs(ONE, 0, 1, 0, 10, 1, 1);
    luckIs(ONE, 0, 1, 1, 10, 0, 1);
    luckIs(ONE, 0, 6, 0, 1, 468559, 1000000);
    luckIs(ONE, 0, 6, 0, 9, 999999, 1000000);
    luckIs(ONE, 0, 6, 999999, 9, 0, 1);
    luckIs(ONE, 0, 6, 999990, 9, 9, 10);
    luckIs(CHAIN, 5, 6, 12345, 1, 1, 1000000);
    luckIs(CHAIN, 5, 6, 12354, 1, 0, 1);
    luckIs(SIX, 5, 6, 12345, 1, 1, 10);
    luckIs(SIX, 5, 6, 555555, 1, 468559, 1000000);
    Towns.unchanged("luck of one who gave", Towns::midway, x -> x.luck(0, 1, 9, 0, true), 1);
    Towns.unchanged("luck of one who gave, below", Towns::midway, x -> x.luck(0, 1, 9, 0, false), 1);
    Towns.unchanged("luck of one who gave and is asked", Towns::midway, x -> x.luck(0, 6, 0, 1, false), 1);
    Towns.unchanged("luck(3, 2, 13, 1)", Towns::midway, x -> x.luck(3, 2, 13, 1, false), 100);
    Due.is("doubt is not asked", Towns.doubting(ONE, 9).luck(0, 1, 0, 10, true), 1);
  }

  @Sentence(of = "Promise 29", says = "UNKNOWN: person; BAD: n, row (n figures at most), x.")
  static void noLuck() {
    for (boolean upper : new boolean[] {true, false}) {
      for (int person : Towns.NO_PERSON_OF_FOUR) {
        Due.is("luck of " + person, Due.of(FOUR).luck(person, 1, 0, 5, upper), UNKNOWN);
        Due.is("luck of " + person + ", n is 0", Due.of(FOUR).luck(person, 0, 0, 5, upper), UNKNOWN);
        Due.is("luck of " + person + ", row is 10", Due.of(FOUR).luck(person, 1, 10, 5, upper), UNKNOWN);
        Due.is("luck of " + person + ", x is 11", Due.of(FOUR).luck(person, 1, 0, 11, upper), UNKNOWN);
      }
      for (int n : new int[] {MIN, MIN + 1, -6, -1, 0, 7, 8, 9, 32, 64, 256, MAX})
        Towns.unchanged("luck, n is " + n, Towns::midway, x -> x.luck(1, n, 0, 5, upper), BAD);
      for (int tenths : new int[] {MIN, MIN + 1, -10, -1, 11, 12, 32, 64, 256, MAX})
        Towns.unchanged("luck, x is " + tenths, Towns::midway, x -> x.luck(1, 1, 1, tenths, upper), BAD);
      int beyond = 1;
      for (int n = 1; n <= 6; n++) {
        int figures = n;
        beyond *= 10;
        int row = beyond;
        Towns.unchanged("luck(1, " + n + ", " + row + ", 5)", Towns::midway, x -> x.luck(1, figures, row, 5, upper), BAD);
        Towns.unchanged("luck(1, " + n + ", " + (row - 1) + ", 5)", Towns::midway, x -> x.luck(1, figures, row - 1, 5, upper), upper ? 0 : 1);
        Towns.unchanged("luck(1, " + n + ", -1, 5)", Towns::midway, x -> x.luck(1, figures, -1, 5, upper), BAD);
        Due.is("luck(0, " + n + ", MAX, 5)", Due.of(SIX).luck(0, n, MAX, 5, upper), BAD);
        Due.is("luck(0, " + n + ", MIN, 5)", Due.of(SIX).luck(0, n, MIN, 5, upper), BAD);
      }
      Due.is("luck(0, 1, 0, 5) of nobody", new StoneSoup().luck(0, 1, 0, 5, upper), UNKNOWN);
      Due.is("luck(6, 1, 0, 5) of six", Due.of(SIX).luck(6, 1, 0, 5, upper), UNKNOWN);
    }
  }

  @Sentence(of = "Promise 30", says = "THE SEED is v: what it was.")
  static void seeds() {
    StoneSoup x = new StoneSoup();
    long was = 0L;
    long[] seeds = {
      1L, -1L, Long.MAX_VALUE, Long.MIN_VALUE, Long.MAX_VALUE, 0L, Integer.MAX_VALUE, Integer.MIN_VALUE,
      1L << 31, 1L << 32, 1L << 62, -9L, -1L << 32, 0L
    };
    for (long seed : seeds) {
      Due.is("seed(" + seed + ")", x.seed(seed), was);
      was = seed;
    }
    StoneSoup y = Towns.midway();
    Due.is("seed(MIN)", y.seed(Long.MIN_VALUE), 77);
    Due.is("seed(77)", y.seed(77L), Long.MIN_VALUE);
    Due.same("nothing else is changed", Towns.all(y), Towns.all(Towns.midway()));
  }

  @Sentence(of = "Promise 31", says = "AN EVENING, as bits.")
  static void evenings() {
    for (int m : new int[] {1, 2, 3, 30, 59, 60})
      for (long from : new long[] {0L, -1L, Long.MAX_VALUE, Long.MIN_VALUE, 77L}) {
        StoneSoup x = Due.of(SIX);
        x.seed(from);
        long seed = from;
        int pot = 0;
        for (int i = 0; i < m; i++) {
          seed = Towns.stepped(seed);
          pot |= 1 << Towns.drawn(seed, 6);
        }
        Due.is("evening(" + m + ") from " + from, x.evening(m), pot);
        Due.is("the seed behind it", x.seed(0L), seed);
        Due.is("nobody has given", x.about(1), 0);
      }
    // one evening of 2 is not two evenings of 1, but the seed is the same
    StoneSoup one = Due.of(SIX);
    StoneSoup two = Due.of(SIX);
    one.evening(60);
    for (int i = 0; i < 60; i++) Due.is("one alone gives", Integer.bitCount(two.evening(1)), 1);
    Due.is("the seed", one.seed(0L), two.seed(0L));
    Due.is("all who gave", Towns.given(SIX, 0, 1, 2, 3, 4, 5).evening(60), 63);
    Due.is("at doubt 3", Towns.doubting(SIX, 3).evening(60), 0);
    Due.is("at doubt 2", Towns.doubting(SIX, 2).evening(60), 63);
  }

  @Sentence(of = "Promise 31", says = "BAD: m; LATE: there is nobody.")
  static void noEvening() {
    for (int m : new int[] {MIN, MIN + 1, -60, -1, 0, 61, 62, 64, 120, 256, MAX}) {
      Towns.unchanged("evening(" + m + ")", Towns::midway, x -> x.evening(m), BAD);
      Towns.unchanged("evening(" + m + ") of nobody", StoneSoup::new, x -> x.evening(m), BAD);
    }
    for (int m : new int[] {1, 2, 59, 60}) Towns.unchanged("evening(" + m + ") of nobody", () -> Due.of("S"), x -> x.evening(m), LATE);
    StoneSoup x = Due.of("S");
    x.seed(5L);
    Due.is("evening(1) of nobody", x.evening(1), LATE);
    Due.is("evening(0) of nobody", x.evening(0), BAD);
    Due.is("the seed", x.seed(0L), 5);
  }

  public static void main(String[] args) throws Exception {
    Sentences.hold(GuessedBounds.class);
  }
}
