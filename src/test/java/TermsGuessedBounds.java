/** Part 3 of the terms: each sentence that names a boundary case. */
public final class TermsGuessedBounds extends Bounds {
  private static void lawsAre(String name, StoneSoup x, int fit, int needs, int hates) {
    Due.is("laws(0), " + name, x.laws(0), fit);
    Due.is("laws(1), " + name, x.laws(1), needs);
    Due.is("laws(2), " + name, x.laws(2), hates);
  }

  @Sentence(of = "Terms 3", says = "to a POT (as a set of THINGS that are in it, and how many gave: 0 .. 6) it gave, or did not")
  static void whatCanBeSeen() {
    for (int things : new int[] {0, 1, 32, 62, 63}) Due.is("see(" + things + ", 0)", new StoneSoup().see(things, 0, true), 1);
    for (int things : new int[] {MIN, -64, -1, 64, 65, 127, 256, MAX}) Due.is("see(" + things + ", 0)", new StoneSoup().see(things, 0, true), BAD);
    for (int gave = 0; gave <= 6; gave++) {
      Due.is("see(0, " + gave + ")", new StoneSoup().see(0, gave, false), 1);
      lawsAre("it gave, of " + gave, seen(0, gave, 1), 7 * (gave + 1), 0, 0);
      lawsAre("it did not, of " + gave, seen(0, gave, 0), 343 - 7 * (gave + 1), 0, 0);
    }
    for (int gave : new int[] {MIN, -7, -1, 7, 8, 32, MAX}) Due.is("see(0, " + gave + ")", new StoneSoup().see(0, gave, true), BAD);
    // nobody need have given as many as there are things, nor fewer
    Due.is("six things of nobody", new StoneSoup().see(63, 0, true), 1);
    Due.is("no thing of six", new StoneSoup().see(0, 6, true), 1);
  }

  @Sentence(of = "Terms 3", says = "6 such at most, none at first.")
  static void sixSeenAtMost() {
    StoneSoup x = new StoneSoup();
    Due.is("about(8) at first", x.about(8), 0);
    Due.is("unsee() at first", x.unsee(), 0);
    for (int i = 1; i <= 6; i++) {
      Due.is("see, " + i, x.see(1, 1, false), i);
      Due.is("about(8)", x.about(8), i);
    }
    int fit = x.laws(0);
    Due.is("a seventh", x.see(1, 1, true), FULL);
    Due.is("about(8)", x.about(8), 6);
    Due.is("laws(0) as it was", x.laws(0), fit);
    Due.is("unsee()", x.unsee(), 6);
    Due.is("a first again", x.see(1, 1, true), 1);
  }

  @Sentence(of = "Terms 3", says = "LAWS are: n (a .. f, or none), x (likewise), l (0 .. 6)")
  static void howManyLawsThereAre() {
    lawsAre("nothing is seen", new StoneSoup(), 343, 0, 0);
    lawsAre("l is 0", seen(0, 0, 1), 7, 0, 0);
    lawsAre("l is 6", seen(0, 5, 0, 0, 6, 1), 7, 0, 0);
    lawsAre("l is no 7", seen(63, 6, 1), 49, 0, 0);
    for (int i = 0; i < 6; i++) {
      lawsAre("n is " + i + " or none", seen(1 << i, 6, 1), 84, 0, 0);
      lawsAre("n is " + i, seen(1 << i, 6, 1, 0, 6, 0), 42, 1 << i, 0);
      lawsAre("x is " + i, seen(0, 0, 1, 1 << i, 0, 0), 1, 0, 1 << i);
    }
  }

  @Sentence(of = "Terms 3", says = "LAWS that FIT all that is SEEN (it gives just if n is there or is none, x is not there or is none, at least l gave): how many")
  static void lawsThatFit() {
    lawsAre("none fits", seen(0, 0, 1, 0, 0, 0), 0, NONE, NONE);
    lawsAre("none fits, of six", seen(0, 0, 1, 0, 0, 1, 0, 0, 1, 0, 0, 1, 0, 0, 1, 0, 0, 0), 0, NONE, NONE);
    lawsAre("one fits", seen(0, 0, 1, 32, 0, 0), 1, 0, 32);
    lawsAre("at least l: as many", seen(63, 3, 1, 63, 2, 0), 7, 0, 0);
    lawsAre("more gave and it did not", seen(63, 3, 0, 63, 2, 1), 0, NONE, NONE);
    lawsAre("all things, nobody", seen(63, 0, 1), 7, 0, 0);
    lawsAre("it gave where all is there", seen(63, 6, 1), 49, 0, 0);
    lawsAre("it did not give where all is there", seen(63, 6, 0), 294, 0, 0);
    lawsAre("the same six times", seen(63, 6, 0, 63, 6, 0, 63, 6, 0, 63, 6, 0, 63, 6, 0, 63, 6, 0), 294, 0, 0);
  }

  @Sentence(of = "Terms 3", says = "THINGS that are n in all of them (bits; none: 0), and likewise x.")
  static void whatIsInAllOfThem() {
    lawsAre("n is f in all", seen(32, 6, 1, 0, 6, 0), 42, 32, 0);
    lawsAre("n is none in all", seen(0, 6, 1), 49, 0, 0);
    lawsAre("x is f in all", seen(31, 6, 1, 63, 6, 0), 42, 0, 32);
    lawsAre("x is none in all", seen(63, 6, 1), 49, 0, 0);
    lawsAre("n is a and x is b in all", seen(1, 6, 1, 0, 6, 0, 61, 6, 1, 3, 6, 0), 7, 1, 2);
    lawsAre("none fits", seen(63, 6, 1, 63, 6, 0), 0, NONE, NONE);
  }

  @Sentence(of = "Terms 3", says = "the set of THINGS (with as many that gave as there are THINGS in it) by which LAWS are parted best")
  static void theBestToShow() {
    Due.is("of all laws four things", new StoneSoup().toShow(), 15);
    // l is 6, so that six things alone part n and x
    Due.is("the greatest set", seen(1, 6, 1, 1, 5, 0).toShow(), 63);
    // l is 0 or 1 and there is no n and no x: nothing parts them, but nobody who gave
    Due.is("the empty set", seen(0, 1, 1, 63, 2, 1).toShow(), 0);
    // there is no n, x is any, l is 0 .. 3: of one thing 12 of 28 give, of two 15, of three 16; of none and one who gave, 14 would
    Due.is("two things", seen(0, 3, 1).toShow(), 3);
    // l is 5 or 6 and there is no n and no x: five things are parted by who gave them
    Due.is("five things", seen(0, 6, 1, 63, 6, 1, 63, 4, 0).toShow(), 31);
  }

  @Sentence(of = "Terms 3", says = "of those by which it gives, and those by which not, the fewer are most; of like ones the least; NONE: no LAW fits.")
  static void likeOnesToShow() {
    Due.is("no law fits", seen(0, 0, 1, 0, 0, 0).toShow(), NONE);
    Due.is("one law fits", seen(0, 0, 1, 32, 0, 0).toShow(), 0);
    Due.is("seven fit and none parts them", seen(63, 5, 0, 63, 6, 1).toShow(), 0);
    // there is no n, l is 0, x is any: three things part three from four
    Due.is("the least of three things", seen(0, 0, 1).toShow(), 7);
    // as before, but x is none or f
    Due.is("f alone", seen(0, 0, 1, 31, 0, 1).toShow(), 32);
  }

  private static void tasteIs(String town, int k, int w, int count, int ofAll) {
    StoneSoup x = Due.of(town);
    Due.is("taste(" + k + ", " + w + ", 0) of " + town, x.taste(k, w, 0), count);
    Due.is("taste(" + k + ", " + w + ", 1) of " + town, x.taste(k, w, 1), ofAll);
  }

  @Sentence(of = "Terms 3", says = "POTS that CAN BE from the empty one, of k PEOPLE, whose WORTH is w: how many; who is of all of these (bits).")
  static void whatTastesAlike() {
    int[] count = {1, 6, 15, 20, 15, 6, 1};
    for (int k = 0; k <= 6; k++) {
      tasteIs(SIX, k, 4 * k, count[k], k == 6 ? 63 : 0);
      tasteIs(SIX, k, 4 * k + 1, 0, NONE);
    }
    tasteIs("S", 0, 0, 1, 0);
    tasteIs("S", 0, 1, 0, NONE);
    tasteIs(GREATEST, 6, 72, 1, 63);
    tasteIs(GREATEST, 6, 71, 0, NONE);
    tasteIs(GREATEST, 6, 73, 0, NONE);
    tasteIs(GREATEST, 1, 12, 6, 0);
    tasteIs(CHAIN, 5, 20, 1, 31);
    tasteIs(LONELY, 2, 8, 0, NONE);
    tasteIs(LEAST, 5, 3, 6, 0);
    tasteIs("SPa--09-1Pb--09-1Pc--09-2", 2, 9, 2, 4);
    for (int p = 0; p <= 1; p++) {
      StoneSoup x = Towns.given(RIVALS, p);
      Due.is("taste(1, 4, 0), whatever the pot is", x.taste(1, 4, 0), 2);
      Due.is("taste(0, 0, 1), whatever the pot is", x.taste(0, 0, 1), 0);
    }
  }

  private static void luckIs(StoneSoup x, int person, int n, int row, int tenths, int above, int below) {
    String call = "luck(" + person + ", " + n + ", " + row + ", " + tenths + ")";
    Due.is(call + " above", x.luck(person, n, row, tenths, true), above);
    Due.is(call + " below", x.luck(person, n, row, tenths, false), below);
  }

  @Sentence(of = "Terms 3", says = "LUCK: n PEOPLE (1 .. 6) are ASKED in a told row (each a figure, the first one's the highest of row; of PEOPLE that there are not nothing comes), from THE POT as it is")
  static void rowsOfLuck() {
    StoneSoup x = Due.of(CHAIN);
    luckIs(x, 0, 1, 0, 5, 1, 2);
    luckIs(x, 5, 6, 12345, 5, 1, 64);
    luckIs(x, 5, 6, 543210, 5, 0, 1);
    luckIs(x, 0, 6, 543210, 5, 1, 2);
    for (int n : new int[] {MIN, -6, -1, 0, 7, 8, 32, MAX}) Due.is("n is " + n, x.luck(0, n, 0, 5, true), BAD);
    luckIs(x, 0, 6, 999999, 10, 0, 1);
    Due.is("row of seven figures", x.luck(0, 6, 1000000, 5, true), BAD);
    luckIs(x, 0, 1, 9, 10, 0, 1);
    Due.is("row of two figures", x.luck(0, 1, 10, 5, true), BAD);
    for (int row : new int[] {MIN, -999999, -1, MAX}) Due.is("row " + row, x.luck(0, 6, row, 5, true), BAD);
    // of those that there are not nothing comes, but the others are asked all the same
    luckIs(x, 1, 4, 9180, 10, 0, 1);
    luckIs(x, 1, 4, 6071, 10, 1, 1);
    luckIs(Due.of(ONE), 0, 3, 101, 5, 1, 2);
    StoneSoup y = Towns.given(CHAIN, 0, 1, 2, 3, 4);
    luckIs(y, 5, 1, 5, 3, 3, 10);
    luckIs(y, 4, 1, 9, 3, 1, 1);
    luckIs(y, 4, 6, 444444, 0, 1, 1);
  }

  @Sentence(of = "Terms 3", says = "each that WOULD then gives by x tenths (0 .. 10), by itself: the chance that a PERSON is of THE POT behind it: a FRACTION.")
  static void tenthsOfLuck() {
    int[][] terms = {{0, 1}, {1, 10}, {1, 5}, {3, 10}, {2, 5}, {1, 2}, {3, 5}, {7, 10}, {4, 5}, {9, 10}, {1, 1}};
    for (int x = 0; x <= 10; x++) luckIs(Due.of(ONE), 0, 1, 0, x, terms[x][0], terms[x][1]);
    for (int x : new int[] {MIN, -10, -1, 11, 12, 100, MAX}) Due.is("x is " + x, Due.of(ONE).luck(0, 1, 0, x, true), BAD);
    luckIs(Due.of(CHAIN), 5, 6, 12345, 1, 1, 1000000);
    luckIs(Due.of(CHAIN), 5, 6, 12345, 9, 531441, 1000000);
    luckIs(Due.of(CHAIN), 5, 6, 12345, 10, 1, 1);
    luckIs(Due.of(CHAIN), 5, 6, 12345, 0, 0, 1);
    luckIs(Due.of(ONE), 0, 6, 0, 9, 999999, 1000000);
    luckIs(Due.of(ONE), 0, 6, 0, 1, 468559, 1000000);
    // whoever is asked first is the only one: the other one gives by half of a half
    luckIs(Due.of(LONELY), 1, 2, 1, 5, 1, 4);
    // who is asked again may give at last
    luckIs(Due.of(LONELY), 0, 3, 10, 5, 5, 8);
    luckIs(Due.of(LONELY), 1, 3, 10, 5, 1, 4);
  }

  @Sentence(of = "Terms 3", says = "m times (1 .. 60)")
  static void stepsOfAnEvening() {
    for (int m : new int[] {MIN, -60, -1, 0, 61, 62, 64, MAX}) Due.is("evening(" + m + ")", Due.of(SIX).evening(m), BAD);
    for (int m : new int[] {1, 2, 59, 60}) {
      StoneSoup x = Due.of(SIX);
      long seed = 0L;
      int pot = 0;
      for (int i = 0; i < m; i++) {
        seed = Towns.stepped(seed);
        pot |= 1 << Towns.drawn(seed, 6);
      }
      Due.is("evening(" + m + ")", x.evening(m), pot);
      Due.is("the seed behind evening(" + m + ")", x.seed(0L), seed);
    }
  }

  @Sentence(of = "Terms 3", says = "x (THE SEED, a long; 0 at first) becomes x times 6364136223846793005 and 1442695040888963407 (64 bits, wrapping)")
  static void seedsThatWrap() {
    Due.is("at first", new StoneSoup().seed(1L), 0);
    StoneSoup first = Due.of(ONE);
    first.evening(1);
    Due.is("0, once", first.seed(0L), 1442695040888963407L);
    long[] seeds = {
      0L, 1L, -1L, Long.MAX_VALUE, Long.MIN_VALUE, Long.MAX_VALUE - 1, Long.MIN_VALUE + 1,
      (1L << 32) - 1, 1L << 32, 1L << 62, -(1L << 32), Integer.MAX_VALUE, Integer.MIN_VALUE
    };
    for (long seed : seeds) {
      StoneSoup x = Due.of(ONE);
      x.seed(seed);
      long want = seed;
      for (int i = 0; i < 5; i++) {
        x.evening(1);
        want = Towns.stepped(want);
        long got = x.seed(0L);
        Due.is("from " + seed + ", " + (i + 1) + " times", got, want);
        x.seed(got);
      }
    }
  }

  @Sentence(of = "Terms 3", says = "its upper 31 bits, by how many PEOPLE there are, what is left is one who is ASKED, if it has not given")
  static void whomASeedAsks() {
    for (int people = 1; people <= 6; people++) {
      String town = SIX.substring(0, 1 + 8 * people);
      int all = 0;
      for (long seed = -20; seed <= 20; seed++) {
        StoneSoup x = Due.of(town);
        long from = seed * 0x123456789abcdL;
        x.seed(from);
        int want = 1 << Towns.drawn(Towns.stepped(from), people);
        Due.is("evening(1) of " + people + " from " + from, x.evening(1), want);
        all |= want;
      }
      Due.is("each of " + people + " was asked", all, (1 << people) - 1);
    }
    // the highest bit of a seed below 0 is but one of the 31
    for (long from : new long[] {0L, 1L, 2L, 3L, 7L, -1L, Long.MIN_VALUE, Long.MAX_VALUE}) {
      StoneSoup x = Due.of(SIX);
      x.seed(from);
      Due.is("evening(1) from " + from, x.evening(1), 1 << (Towns.stepped(from) >>> 33) % 6);
    }
    Due.is("evening(60) of one who gave", Towns.given(ONE, 0).evening(60), 1);
    // asking one who has given makes no doubt: six of two, whatever the seed
    for (long seed = 0; seed < 20; seed++) {
      StoneSoup y = Due.of("SPa--09-0Pb--09-0");
      y.seed(seed);
      Due.is("evening(60) of two from " + seed, y.evening(60), 3);
    }
  }

  @Sentence(of = "Terms 3", says = "(DOUBT as it is now, and as it grows): THE POT then.")
  static void doubtOfAnEvening() {
    for (int doubt = 0; doubt <= 9; doubt++) {
      StoneSoup x = Towns.doubting(SIX, doubt);
      Due.is("evening(60) at doubt " + doubt, x.evening(60), doubt < 3 ? 63 : 0);
    }
    // one who never gives and one who does: the evening is over when the first was asked three times
    for (int doubt = 0; doubt <= 4; doubt++)
      for (long seed = 0; seed < 30; seed++) {
        StoneSoup x = Towns.doubting("SPa--09-0Pb--0950", doubt);
        x.seed(seed);
        long v = seed;
        int grown = doubt;
        int pot = 0;
        for (int i = 0; i < 6; i++) {
          v = Towns.stepped(v);
          if (Towns.drawn(v, 2) == 1) grown++;
          else if (grown < 3) pot = 1;
        }
        Due.is("evening(6) at doubt " + doubt + " from " + seed, x.evening(6), pot);
      }
    StoneSoup y = Towns.given(SIX, 1, 4);
    Due.is("from the pot as it is", y.evening(1) & 18, 18);
    Due.is("of one who never gives", Due.of(NEVER).evening(60), 0);
  }

  @Sentence(of = "Terms 3", says = "(Nothing changes but THE SEED.)")
  static void onlyTheSeedChanges() {
    for (int m : new int[] {1, 60}) {
      StoneSoup x = Towns.midway();
      x.evening(m);
      long seed = 77L;
      for (int i = 0; i < m; i++) seed = Towns.stepped(seed);
      Due.is("the seed", x.seed(77L), seed);
      Due.same("all but the seed", Towns.all(x), Towns.all(Towns.midway()));
    }
    StoneSoup y = Due.of(NEVER);
    y.evening(60);
    Due.is("doubt", y.about(4), 0);
    Due.is("the pot", y.about(1), 0);
    Due.is("acts", y.about(7), 0);
  }

  @Sentence(of = "Terms 3", says = "SLOTS 0 .. 1 keep THE POT, DOUBT, THE LID (no ACTS when one goes on).")
  static void twoSlots() {
    for (int slot = 0; slot <= 1; slot++) {
      StoneSoup x = Towns.given(SIX, 5);
      Due.is("keep(" + slot + ")", x.keep(slot), 1);
      x.lid();
      Due.is("again(" + slot + ")", x.again(slot), 1);
      Due.is("the lid", x.about(5), 1);
      Due.is("no acts", x.about(7), 0);
      Due.is("undo()", x.undo(), LATE);
      Due.is("the other slot", x.again(1 - slot), LATE);
    }
    for (int slot : Towns.NO_SLOT) {
      Due.is("keep(" + slot + ")", Due.of(SIX).keep(slot), UNKNOWN);
      Due.is("again(" + slot + ")", Due.of(SIX).again(slot), UNKNOWN);
    }
    StoneSoup most = Towns.doubting(SIX, 9);
    most.lid();
    Due.is("keep(1) of nobody at doubt 9", most.keep(1), 0);
    most.town();
    Due.is("again(1) behind town()", most.again(1), LATE);
    StoneSoup y = Towns.doubting(SIX, 8);
    y.lid();
    y.keep(1);
    for (int i = 0; i < 16; i++) y.undo();
    Due.is("again(1)", y.again(1), 0);
    Due.is("doubt 9", y.about(4), 9);
    Due.is("the lid is off", y.about(5), 0);
    StoneSoup z = Towns.given(SIX, 0, 1, 2, 3, 4, 5);
    z.keep(0);
    for (int i = 0; i < 6; i++) z.undo();
    Due.is("again(0) of all", z.again(0), 6);
    Due.is("the pot of all", z.about(1), 63);
  }

  public static void main(String[] args) throws Exception {
    Sentences.hold(TermsGuessedBounds.class);
  }
}
