/** Promises 11 to 19: each sentence that names a boundary case. */
public final class PotsBounds extends Bounds {
  private static final int[] NO_TWO = {MIN, MIN + 1, -2, -1, 2, 3, 32, 33, 64, 256, MAX};
  private static final int[] NO_THREE = {MIN, MIN + 1, -3, -1, 3, 4, 32, 33, 64, 256, MAX};

  @Sentence(of = "Promise 11", says = "Whether one WOULD give to a POT: 1, 0.")
  static void wouldOrNot() {
    StoneSoup x = Due.of(FOUR);
    String[] want = {"1010", "0100", "1011", "0001", "1000", "0100", "1001", "0001", "1010", "0100", "1010", "0000", "1000", "0100", "1000", "0000"};
    for (int pot = 0; pot < 16; pot++)
      for (int p = 0; p < 4; p++) Due.is("would(" + p + ", " + pot + ")", x.would(p, pot), want[pot].charAt(p) - '0');
    Towns.unchanged("would(0, 0)", Towns::brimful, y -> y.would(0, 0), 1);
    Towns.unchanged("would(5, 31)", Towns::brimful, y -> y.would(5, 31), 1);
    Towns.unchanged("would(5, 63)", Towns::brimful, y -> y.would(5, 63), 0);
    Towns.unchanged("would(5, 32)", Towns::brimful, y -> y.would(5, 32), 0);
    Due.is("doubt is not asked", Towns.doubting(SIX, 9).would(0, 0), 1);
    Due.is("a pot that can not be", Due.of(CHAIN).would(5, 16), 1);
  }

  @Sentence(of = "Promise 11", says = "UNKNOWN; BAD.")
  static void wouldOfNobody() {
    for (int person : Towns.NO_PERSON_OF_FOUR)
      for (int pot : new int[] {0, 15, 16, -1}) Due.is("would(" + person + ", " + pot + ")", Due.of(FOUR).would(person, pot), UNKNOWN);
    for (int pot : Towns.NO_POT_OF_FOUR)
      for (int person : new int[] {0, 3}) Due.is("would(" + person + ", " + pot + ")", Due.of(FOUR).would(person, pot), BAD);
    Due.is("would(0, 64) of six", Due.of(SIX).would(0, 64), BAD);
    Due.is("would(6, 0) of six", Due.of(SIX).would(6, 0), UNKNOWN);
  }

  @Sentence(of = "Promise 12", says = "WORTH of a POT.")
  static void worths() {
    Towns.unchanged("worth(0) of nobody", StoneSoup::new, x -> x.worth(0), 0);
    Towns.unchanged("worth(0)", Towns::midway, x -> x.worth(0), 0);
    Towns.unchanged("worth(15)", Towns::midway, x -> x.worth(15), 26);
    Due.is("the greatest", Due.of(GREATEST).worth(63), 72);
    Due.is("six like ones of the greatest", Due.of(GREATEST.replaceAll("P.", "Pf")).worth(63), 57);
    Due.is("six like ones of the least", Due.of(LEAST).worth(63), 3);
    Due.is("a pot that can not be", Due.of(CHAIN).worth(32), 4);
    for (int p = 0; p < 6; p++) Due.is("worth(" + (1 << p) + ")", Due.of("SPa--09-1Pb--09-2Pc--09-3Pd--09-4Pe--09-5Pf--09-6").worth(1 << p), p + 4);
  }

  @Sentence(of = "Promise 12", says = "BAD.")
  static void worthOfNoPot() {
    for (int pot : Towns.NO_POT_OF_FOUR) Towns.unchanged("worth(" + pot + ")", Towns::midway, x -> x.worth(pot), BAD);
    Due.is("worth(64) of six", Due.of(SIX).worth(64), BAD);
    Due.is("worth(1) of nobody", Due.of("S").worth(1), BAD);
  }

  private static void canBeIs(String name, StoneSoup x, int count, int some, int all) {
    Due.is("canBe(0), " + name, x.canBe(0), count);
    Due.is("canBe(1), " + name, x.canBe(1), some);
    Due.is("canBe(2), " + name, x.canBe(2), all);
  }

  @Sentence(of = "Promise 13", says = "How many POTS CAN BE (what = 0), who is of some (1: bits), of all (2: bits).")
  static void potsThatCanBe() {
    canBeIs("of nobody", new StoneSoup(), 1, 0, 0);
    canBeIs("of one who never gives", Due.of(NEVER), 1, 0, 0);
    canBeIs("of one", Due.of(ONE), 2, 1, 0);
    canBeIs("of one who gave", Towns.given(ONE, 0), 1, 1, 1);
    canBeIs("of six", Due.of(SIX), 64, 63, 0);
    canBeIs("of six of whom one gave", Towns.given(SIX, 5), 32, 63, 32);
    canBeIs("of six of whom five gave", Towns.given(SIX, 5, 4, 3, 2, 1), 2, 63, 62);
    canBeIs("of six who gave", Towns.given(SIX, 0, 1, 2, 3, 4, 5), 1, 63, 63);
    canBeIs("of six of whom one gives", Due.of(LONELY), 7, 63, 0);
    canBeIs("of six of whom the last gave", Towns.given(LONELY, 5), 1, 32, 32);
    canBeIs("one barred", Towns.given(RIVALS, 1), 1, 2, 2);
  }

  @Sentence(of = "Promise 13", says = "BAD.")
  static void canBeOfNothing() {
    for (int what : NO_THREE) Towns.unchanged("canBe(" + what + ")", Towns::midway, x -> x.canBe(what), BAD);
    Due.is("canBe(3) of nobody", new StoneSoup().canBe(3), BAD);
  }

  @Sentence(of = "Promise 14", says = "ROW to a POT: its i-th PERSON (from 0); NONE: there is none such, or it can not be.")
  static void placesOfARow() {
    StoneSoup x = Due.of(CHAIN);
    for (int i = 0; i < 6; i++) Due.is("rowAt(63, " + i + ")", x.rowAt(63, i), i);
    for (int i : new int[] {MIN, MIN + 1, -6, -1, 6, 7, 8, 32, 64, MAX}) {
      Due.is("rowAt(63, " + i + ")", x.rowAt(63, i), NONE);
      Due.is("rowAt(0, " + i + ")", x.rowAt(0, i), NONE);
    }
    Due.is("rowAt(0, 0): the row to the pot itself is empty", x.rowAt(0, 0), NONE);
    Due.is("rowAt(1, 0)", x.rowAt(1, 0), 0);
    Due.is("rowAt(1, 1)", x.rowAt(1, 1), NONE);
    Due.is("rowAt(32, 0), it can not be", x.rowAt(32, 0), NONE);
    Due.is("rowAt(62, 0), it can not be", x.rowAt(62, 0), NONE);
    StoneSoup y = Towns.given(CHAIN, 0, 1, 2, 3);
    Due.is("rowAt(63, 0), four gave", y.rowAt(63, 0), 4);
    Due.is("rowAt(63, 1), four gave", y.rowAt(63, 1), 5);
    Due.is("rowAt(63, 2), four gave", y.rowAt(63, 2), NONE);
    Due.is("rowAt(15, 0), as it is", y.rowAt(15, 0), NONE);
    Due.is("rowAt(7, 0), behind it", y.rowAt(7, 0), NONE);
    Due.is("rowAt(0, 0), behind it", y.rowAt(0, 0), NONE);
    StoneSoup z = Due.of(SIX);
    for (int p = 0; p < 6; p++) Due.is("rowAt(" + (1 << p) + ", 0)", z.rowAt(1 << p, 0), p);
    Due.is("rowAt(0, 0) of nobody", new StoneSoup().rowAt(0, 0), NONE);
    Towns.unchanged("rowAt(15, 0)", Towns::midway, s -> s.rowAt(15, 0), 1);
    Towns.unchanged("rowAt(15, 1)", Towns::midway, s -> s.rowAt(15, 1), 3);
    Towns.unchanged("rowAt(15, 2)", Towns::midway, s -> s.rowAt(15, 2), NONE);
  }

  @Sentence(of = "Promise 14", says = "BAD: pot.")
  static void rowToNoPot() {
    for (int pot : Towns.NO_POT_OF_FOUR)
      for (int i : new int[] {0, -1, 6}) Towns.unchanged("rowAt(" + pot + ", " + i + ")", Towns::midway, x -> x.rowAt(pot, i), BAD);
    Due.is("rowAt(64, 0) of six", Due.of(SIX).rowAt(64, 0), BAD);
    Due.is("rowAt(1, 0) of nobody", new StoneSoup().rowAt(1, 0), BAD);
  }

  @Sentence(of = "Promise 15", says = "In how many rows it comes to a POT from THE POT as it is.")
  static void howManyRows() {
    int[] most = {1, 1, 2, 6, 24, 120, 720};
    StoneSoup x = Due.of(SIX);
    for (int pot = 0; pot < 64; pot++) Due.is("rows(" + pot + ")", x.rows(pot), most[Integer.bitCount(pot)]);
    StoneSoup y = Due.of(SIX);
    for (int gave = 1; gave <= 6; gave++) {
      y.ask(6 - gave);
      Due.is("rows(63), " + gave + " gave", y.rows(63), most[6 - gave]);
      Due.is("rows as it is, " + gave + " gave", y.rows(y.about(1)), 1);
      Due.is("rows(0), " + gave + " gave", y.rows(0), 0);
    }
    Due.is("rows(0) of nobody", new StoneSoup().rows(0), 1);
    Due.is("rows(1) of one who never gives", Due.of(NEVER).rows(1), 0);
    Due.is("rows(62) of a chain", Due.of(CHAIN).rows(62), 0);
    Due.is("rows(63) of a chain", Due.of(CHAIN).rows(63), 1);
    Due.is("a pot of others", Towns.given(SIX, 5).rows(31), 0);
    Towns.unchanged("rows(15)", Towns::midway, s -> s.rows(15), 1);
  }

  @Sentence(of = "Promise 15", says = "BAD.")
  static void rowsToNoPot() {
    for (int pot : Towns.NO_POT_OF_FOUR) Towns.unchanged("rows(" + pot + ")", Towns::midway, x -> x.rows(pot), BAD);
    Due.is("rows(64) of six", Due.of(SIX).rows(64), BAD);
    Due.is("rows(1) of nobody", new StoneSoup().rows(1), BAD);
  }

  private static void bestIs(String name, StoneSoup x, int worth, int pot) {
    Due.is("best(0), " + name, x.best(0), worth);
    Due.is("best(1), " + name, x.best(1), pot);
  }

  @Sentence(of = "Promise 16", says = "BEST: its WORTH (what = 0), who is of it (1: bits).")
  static void bestOfAll() {
    bestIs("of nobody", new StoneSoup(), 0, 0);
    bestIs("of nobody who gives", Due.of(NEVER), 0, 0);
    bestIs("of the greatest", Due.of(GREATEST), 72, 63);
    bestIs("of all who gave", Towns.given(GREATEST, 0, 1, 2, 3, 4, 5), 72, 63);
    bestIs("as it is, among like ones", Towns.given(LEAST, 3), 3, 8);
    bestIs("the least of six like ones", Due.of(LONELY), 4, 1);
    bestIs("when the better one can be no more", Towns.given("SPa-b09-9Pb-a09-0", 1), 3, 2);
    bestIs("when the better one can be no more", Towns.given("SPa-b09-0Pb-a09-9", 0), 3, 1);
    Towns.unchanged("best(0)", Towns::midway, s -> s.best(0), 26);
    Towns.unchanged("best(1)", Towns::midway, s -> s.best(1), 15);
  }

  @Sentence(of = "Promise 16", says = "BAD.")
  static void bestOfNothing() {
    for (int what : NO_TWO) Towns.unchanged("best(" + what + ")", Towns::midway, x -> x.best(what), BAD);
    Due.is("best(2) of nobody", new StoneSoup().best(2), BAD);
  }

  @Sentence(of = "Promise 17", says = "HOW SOON; NONE.")
  static void howSoon() {
    for (int p = 0; p < 6; p++) {
      Due.is("howSoon(" + p + ") of a chain", Due.of(CHAIN).howSoon(p), p + 1);
      Due.is("howSoon(" + p + ") of six", Due.of(SIX).howSoon(p), 1);
      Due.is("howSoon(" + p + ") when all gave", Towns.given(CHAIN, 0, 1, 2, 3, 4, 5).howSoon(p), 0);
      Due.is("howSoon(" + p + ") when 0 alone gave", Towns.given(LONELY, 0).howSoon(p), p == 0 ? 0 : NONE);
    }
    Due.is("howSoon(0) of one who never gives", Due.of(NEVER).howSoon(0), NONE);
    Towns.unchanged("howSoon(0)", Towns::midway, s -> s.howSoon(0), 0);
    Towns.unchanged("howSoon(3)", Towns::midway, s -> s.howSoon(3), 2);
  }

  @Sentence(of = "Promise 17", says = "UNKNOWN.")
  static void howSoonOfNobody() {
    for (int person : Towns.NO_PERSON_OF_FOUR) Towns.unchanged("howSoon(" + person + ")", Towns::midway, x -> x.howSoon(person), UNKNOWN);
    Due.is("howSoon(6) of six", Due.of(SIX).howSoon(6), UNKNOWN);
    Due.is("howSoon(0) of nobody", new StoneSoup().howSoon(0), UNKNOWN);
  }

  @Sentence(of = "Promise 18", says = "Whom one BARS, as bits.")
  static void whomOneBars() {
    for (int p = 0; p < 6; p++) {
      Due.is("bars(" + p + "), each all others", Due.of(LONELY).bars(p), 63 - (1 << p));
      Due.is("bars(" + p + "), each nobody", Due.of(SIX).bars(p), 0);
      Due.is("bars(" + p + ") of a chain", Due.of(CHAIN).bars(p), 0);
      Due.is("bars(" + p + ") when the last gave", Towns.given(LONELY, 5).bars(p), 0);
    }
    Due.is("bars(0) of one", Due.of(ONE).bars(0), 0);
    Due.is("bars(0) of one who never gives", Due.of(NEVER).bars(0), 0);
    Due.is("the last bars the first", Due.of("SPa-f09-1Pb--09-1Pc--09-1Pd--09-1Pe--09-1Pf-a09-1").bars(5), 1);
    Due.is("the first bars the last", Due.of("SPa-f09-1Pb--09-1Pc--09-1Pd--09-1Pe--09-1Pf-a09-1").bars(0), 32);
    Towns.unchanged("bars(0)", Towns::midway, s -> s.bars(0), 0);
  }

  @Sentence(of = "Promise 18", says = "UNKNOWN.")
  static void barsOfNobody() {
    for (int person : Towns.NO_PERSON_OF_FOUR) Towns.unchanged("bars(" + person + ")", Towns::midway, x -> x.bars(person), UNKNOWN);
    Due.is("bars(6) of six", Due.of(SIX).bars(6), UNKNOWN);
    Due.is("bars(0) of nobody", new StoneSoup().bars(0), UNKNOWN);
  }

  @Sentence(of = "Promise 19", says = "JUDGED; NONE.")
  static void judgedRows() {
    StoneSoup x = Due.of(CHAIN);
    Due.is("all give, one", x.judged(1, 0), NONE);
    Due.is("all give, six", x.judged(6, 12345), NONE);
    Due.is("the first does not", x.judged(6, 102345), 0);
    Due.is("the last does not", x.judged(6, 12344), 5);
    Due.is("the seventh does not", x.judged(7, 123455), 6);
    Due.is("the seventh of eight does not", x.judged(8, 1234500), 6);
    Due.is("there is no such one", x.judged(2, 6), 1);
    Due.is("there is no such one", x.judged(2, 9), 1);
    Due.is("there is nobody", new StoneSoup().judged(8, 0), 0);
    Due.is("all gave", Towns.given(CHAIN, 0, 1, 2, 3, 4, 5).judged(1, 5), 0);
    Towns.unchanged("judged(2, 13)", Towns::midway, s -> s.judged(2, 13), NONE);
    Towns.unchanged("judged(3, 131)", Towns::midway, s -> s.judged(3, 131), 2);
    Towns.unchanged("judged(8, 99999999)", Towns::midway, s -> s.judged(8, 99999999), 0);
  }

  @Sentence(of = "Promise 19", says = "BAD: n, row (0 or more, n figures at most).")
  static void rowsThatAreNone() {
    for (int n : new int[] {MIN, MIN + 1, -8, -1, 0, 9, 10, 16, 32, 64, 256, MAX})
      for (int row : new int[] {0, 1, -1}) Towns.unchanged("judged(" + n + ", " + row + ")", Towns::midway, x -> x.judged(n, row), BAD);
    int beyond = 1;
    for (int n = 1; n <= 8; n++) {
      int figures = n;
      beyond *= 10;
      int row = beyond;
      Towns.unchanged("judged(" + n + ", " + row + ")", Towns::midway, x -> x.judged(figures, row), BAD);
      Towns.unchanged("judged(" + n + ", " + (row - 1) + ")", Towns::midway, x -> x.judged(figures, row - 1), 0);
      Towns.unchanged("judged(" + n + ", -1)", Towns::midway, x -> x.judged(figures, -1), BAD);
      Towns.unchanged("judged(" + n + ", " + -row + ")", Towns::midway, x -> x.judged(figures, -row), BAD);
      Due.is("judged(" + n + ", MAX)", Due.of(SIX).judged(n, MAX), BAD);
      Due.is("judged(" + n + ", MIN)", Due.of(SIX).judged(n, MIN), BAD);
      Due.is("judged(" + n + ", 0)", Due.of(SIX).judged(n, 0), n == 1 ? NONE : 1);
    }
    Due.is("judged(1, 10) of nobody", new StoneSoup().judged(1, 10), BAD);
  }

  public static void main(String[] args) throws Exception {
    Sentences.hold(PotsBounds.class);
  }
}
