import java.util.List;
import java.util.function.Supplier;

/** Part 2 of the terms: each sentence that names a boundary case. */
public final class TermsPotsBounds extends Bounds {
  private static String answers(StoneSoup x) {
    StringBuilder s = new StringBuilder();
    for (int what = 0; what <= 2; what++) s.append(x.canBe(what)).append(' ').append(x.best(what)).append(' ');
    for (int p = 0; p < 4; p++) s.append(x.howSoon(p)).append(' ').append(x.bars(p)).append(' ').append(x.would(p, 5)).append(' ');
    for (int pot = 0; pot < 16; pot++) s.append(x.rows(pot)).append(' ').append(x.rowAt(pot, 0)).append(' ').append(x.worth(pot)).append(' ');
    for (int row : new int[] {0, 1, 13, 2013, 2031}) s.append(x.judged(4, row)).append(' ');
    for (int what = 0; what <= 1; what++) s.append(x.rests(what)).append(' ').append(x.byTurns(what)).append(' ');
    for (int p = 0; p < 4; p++) s.append(x.share(p, 15, true)).append('/').append(x.share(p, 15, false)).append(' ');
    return s.append(x.content()).append(' ').append(x.taste(2, 12, 1)).append(' ').append(x.luck(3, 3, 13, 5, false)).toString();
  }

  @Sentence(of = "Terms 2", says = "In what follows nothing is changed")
  static void nothingIsChanged() {
    for (Supplier<StoneSoup> start : List.<Supplier<StoneSoup>>of(Towns::midway, Towns::brimful, StoneSoup::new)) {
      StoneSoup x = start.get();
      answers(x);
      Due.same("all behind the questions", Towns.all(x), Towns.all(start.get()));
    }
  }

  /** Whatever was asked ahead, of a greater town, of a fuller pot or of an emptier one, does not show. */
  @Sentence(of = "Terms 2", says = "In what follows nothing is changed")
  static void whatWasAskedAheadIsForgotten() {
    String greater = GREATEST.substring(0, 41);
    for (String first : new String[] {GREATEST, greater, LEAST, CHAIN, LONELY})
      for (int p = 0; p < 3; p += 2) {
        StoneSoup x = Due.of(first);
        answers(x);
        Due.tell(x, FOUR);
        x.town();
        Due.same("answers behind " + first, answers(x), answers(Due.of(FOUR)));
        x.ask(p);
        Due.same("answers when " + p + " gave, behind others", answers(x), answers(Towns.given(FOUR, p)));
        x.undo();
        Due.same("answers when it was undone", answers(x), answers(Due.of(FOUR)));
      }
    StoneSoup y = Due.of(greater);
    y.byTurns(0);
    Due.tell(y, greater.substring(0, 33));
    y.town();
    Due.is("byTurns(1) of four behind five", y.byTurns(1), NONE);
    StoneSoup z = Due.of(SIX);
    z.rows(63);
    z.share(0, 63, true);
    z.luck(0, 6, 0, 5, true);
    for (int p = 5; p >= 0; p--) {
      z.ask(p);
      Due.is("rows(0) when " + p + " gave", z.rows(0), 0);
      Due.is("canBe(2) when " + p + " gave", z.canBe(2), z.about(1));
      Due.is("share(0, 1) when " + p + " gave", z.share(0, 1, true), 4);
      Due.is("luck(" + p + ", 1, 0, 5) when it gave", z.luck(p, 1, 0, 5, true), 1);
      Due.is("below", z.luck(p, 1, 0, 5, false), 1);
    }
  }

  @Sentence(of = "Terms 2", says = "DOUBTS do not count.")
  static void doubtsDoNotCount() {
    String want = answers(Due.of(FOUR));
    for (int doubt = 1; doubt <= 9; doubt++) Due.same("answers at doubt " + doubt, answers(Towns.doubting(FOUR, doubt)), want);
    StoneSoup x = Due.of(FOUR);
    StoneSoup y = Due.of(FOUR);
    for (StoneSoup each : new StoneSoup[] {x, y}) each.ask(0);
    for (int i = 0; i < 5; i++) y.ask(2);
    Due.is("doubt", y.about(4), 3);
    Due.same("answers when one gave, at doubt 3", answers(y), answers(x));
    StoneSoup z = Towns.doubting(SIX, 9);
    Due.is("judged(6, 12345) at doubt 9", z.judged(6, 12345), NONE);
    Due.is("canBe(0) at doubt 9", z.canBe(0), 64);
    Due.is("about(6) at doubt 9", z.about(6), 63);
    Due.is("luck(0, 1, 0, 10) at doubt 9", z.luck(0, 1, 0, 10, true), 1);
  }

  @Sentence(of = "Terms 2", says = "a POT to which one can come from THE POT as it is, one that WOULD behind the other (THE POT itself, too).")
  static void whatCanBe() {
    Due.is("of nobody", new StoneSoup().canBe(0), 1);
    Due.is("of one who never gives", Due.of(NEVER).canBe(0), 1);
    Due.is("of one", Due.of(ONE).canBe(0), 2);
    Due.is("of one who gave", Towns.given(ONE, 0).canBe(0), 1);
    Due.is("all that there are", Due.of(SIX).canBe(0), 64);
    Due.is("all gave", Towns.given(SIX, 0, 1, 2, 3, 4, 5).canBe(0), 1);
    for (int gave = 0; gave <= 5; gave++) {
      StoneSoup x = Due.of(CHAIN);
      for (int p = 0; p < gave; p++) x.ask(p);
      Due.is("of a chain, " + gave + " gave", x.canBe(0), 7 - gave);
      for (int pot = 0; pot < 64; pot++)
        Due.is("rows(" + pot + "), " + gave + " gave", x.rows(pot), (pot & pot + 1) == 0 && pot + 1 >= 1 << gave ? 1 : 0);
    }
    Due.is("of six of whom one gives", Due.of(LONELY).canBe(0), 7);
    Due.is("of six of whom the last gave", Towns.given(LONELY, 5).canBe(0), 1);
  }

  private static void row(StoneSoup x, int pot, int... want) {
    for (int i = 0; i < want.length; i++) Due.is("rowAt(" + pot + ", " + i + ")", x.rowAt(pot, i), want[i]);
    Due.is("rowAt(" + pot + ", " + want.length + ")", x.rowAt(pot, want.length), NONE);
  }

  @Sentence(of = "Terms 2", says = "of such rows of PEOPLE the first one (by the first PERSON, then the second, ..).")
  static void theFirstRow() {
    row(Due.of(SIX), 0);
    row(Due.of(SIX), 32, 5);
    row(Due.of(SIX), 63, 0, 1, 2, 3, 4, 5);
    row(Towns.given(SIX, 0), 63, 1, 2, 3, 4, 5);
    row(Towns.given(SIX, 5), 63, 0, 1, 2, 3, 4);
    row(Towns.given(SIX, 0, 1, 2, 3, 4, 5), 63);
    // the last one must be first; then the first PERSON is told by who can be first, not by the number of the pot
    row(Due.of("SPa--0915Pb--0925Pc--0935Pd--0945Pe--0955Pf--09-5"), 63, 5, 4, 3, 2, 1, 0);
    row(Due.of("SPa--29-5Pb--09-5Pc--09-5"), 7, 1, 2, 0);
    // 0 first, then not 1 but 2; and 1 first where 0 can only be last
    row(Due.of("SPa--09-5Pbc-09-5Pc--09-5"), 7, 0, 2, 1);
    row(Due.of("SPac-09-5Pb--09-5Pc--09-5"), 7, 1, 2, 0);
    // rows that differ at the last but one alone
    row(Due.of("SPa--09-5Pb--09-5Pc--0935Pd--09-5"), 15, 0, 1, 3, 2);
  }

  private static void bestIs(String name, StoneSoup x, int worth, int pot) {
    Due.is("best(0), " + name, x.best(0), worth);
    Due.is("best(1), " + name, x.best(1), pot);
  }

  @Sentence(of = "Terms 2", says = "of POTS that CAN BE the one of most WORTH; of like ones the least as bits.")
  static void theBest() {
    bestIs("of nobody", new StoneSoup(), 0, 0);
    bestIs("of one who never gives", Due.of(NEVER), 0, 0);
    bestIs("of the greatest", Due.of(GREATEST), 72, 63);
    bestIs("of six who give nothing more than one does", Due.of(LEAST), 3, 1);
    bestIs("the same, when the last gave", Towns.given(LEAST, 5), 3, 32);
    bestIs("of six of whom one gives", Due.of(LONELY), 4, 1);
    bestIs("of which the last is worth 1 more", Due.of(Towns.with(LONELY, 48, '2')), 5, 32);
    bestIs("of which the last but one is worth 1 more", Due.of(Towns.with(LONELY, 40, '2')), 5, 16);
    bestIs("when the better one can be no more", Towns.given("SPa-b09-0Pb-a09-9", 0), 3, 1);
    bestIs("when the better one can be no more", Towns.given("SPa-b09-9Pb-a09-0", 1), 3, 2);
    // 0 and 1 together are worth what 2 is: 3 is less than 4
    bestIs("of pots of two and of one", Due.of("SPa-c09-1Pa-c09-2Pc-a09-3"), 6, 3);
    bestIs("of pots of one and of two", Due.of("SPa-c09-3Pc-a09-1Pc-a09-2"), 6, 1);
  }

  @Sentence(of = "Terms 2", says = "the fewest that give ahead of it and itself, in any row (0: it has given); NONE: never.")
  static void howSoonOneGives() {
    StoneSoup x = Due.of(CHAIN);
    for (int gave = 0; gave <= 6; gave++) {
      for (int p = 0; p < 6; p++) Due.is("howSoon(" + p + "), " + gave + " gave", x.howSoon(p), Math.max(p + 1 - gave, 0));
      if (gave < 6) x.ask(gave);
    }
    Due.is("never", Due.of(NEVER).howSoon(0), NONE);
    StoneSoup y = Towns.given(LONELY, 2);
    for (int p = 0; p < 6; p++) Due.is("howSoon(" + p + ") when 2 gave", y.howSoon(p), p == 2 ? 0 : NONE);
    // 3 comes behind 2 who comes behind 1, or behind 0 alone
    Due.is("the shorter row", Due.of("SPa--09-0Pb--09-0Pab-09-0Pca-09-0").howSoon(3), 2);
    Due.is("the longer row", Towns.given("SPa-b09-0Pb--09-0Pab-09-0Pca-09-0", 1).howSoon(3), 2);
  }

  @Sentence(of = "Terms 2", says = "It BARS another one, if no POT that CAN BE has both, but some have each.")
  static void whoBarsWhom() {
    StoneSoup x = Due.of(RIVALS);
    Due.is("bars(0)", x.bars(0), 2);
    Due.is("bars(1)", x.bars(1), 1);
    Due.is("who never gives bars nobody", x.bars(2), 0);
    StoneSoup y = Towns.given(RIVALS, 0);
    for (int p = 0; p < 3; p++) Due.is("bars(" + p + ") when 0 gave", y.bars(p), 0);
    StoneSoup z = Due.of(LONELY);
    for (int p = 0; p < 6; p++) Due.is("each all others, " + p, z.bars(p), 63 - (1 << p));
    StoneSoup free = Due.of(SIX);
    for (int p = 0; p < 6; p++) Due.is("nobody, " + p, free.bars(p), 0);
    Due.is("not oneself", Due.of(ONE).bars(0), 0);
    // 0 first and 1 behind it is a pot of both, though 0 behind 1 can not be
    Due.is("both in one of two rows", Due.of("SPa-b09-0Pb--09-0").bars(0), 0);
    Due.is("both in one of two rows", Due.of("SPa-b09-0Pb--09-0").bars(1), 0);
    Due.is("from a pot on, the pot of both can be no more", Towns.given("SPa-b09-0Pb--09-0", 1).bars(1), 0);
  }

  @Sentence(of = "Terms 2", says = "a told row of n (1 .. 8) ASKED from now on, each a figure (the first one's the highest of row)")
  static void rowsThatAreJudged() {
    StoneSoup x = Due.of(SIX);
    for (int n : new int[] {MIN, -8, -1, 0, 9, 10, 16, MAX}) Due.is("judged(" + n + ", 0)", x.judged(n, 0), BAD);
    Due.is("n is 1", x.judged(1, 5), NONE);
    Due.is("n is 8, figures that are not told are 0", x.judged(8, 1), 1);
    Due.is("n is 8, the greatest", x.judged(8, 99999999), 0);
    Due.is("n is 8, one more", x.judged(8, 100000000), BAD);
    Due.is("n is 8, an int's greatest", x.judged(8, MAX), BAD);
    Due.is("n is 1, the greatest", x.judged(1, 9), 0);
    Due.is("n is 1, one more", x.judged(1, 10), BAD);
    Due.is("n is 7, one more", x.judged(7, 10000000), BAD);
    Due.is("n is 7, the greatest", x.judged(7, 9999999), 0);
    for (int row : new int[] {-1, -9, -10, -100000000, MIN, MIN + 1}) Due.is("judged(8, " + row + ")", x.judged(8, row), BAD);
    StoneSoup y = Due.of(CHAIN);
    Due.is("the first is the highest", y.judged(6, 12345), NONE);
    Due.is("the first is not the lowest", y.judged(6, 543210), 0);
    StoneSoup z = Towns.given(CHAIN, 0, 1, 2);
    Due.is("from now on", z.judged(3, 345), NONE);
    Due.is("from now on, not from the empty pot", z.judged(1, 0), 0);
  }

  @Sentence(of = "Terms 2", says = "the place (from 0) of the first that would not give then (there is no such PERSON, too); NONE: all give.")
  static void placesThatAreJudged() {
    StoneSoup x = Due.of(SIX);
    int[] rows = {6, 16, 126, 1236, 12346, 123456, 1234506};
    for (int place = 0; place <= 6; place++) {
      int row = rows[place];
      Due.is("judged(" + (place + 1) + ", " + row + ")", x.judged(place + 1, row), place);
      for (int n = place + 2; n <= 8; n++) row *= 10;
      Due.is("judged(8, " + row + ")", x.judged(8, row), place);
    }
    for (int n = 1; n <= 6; n++) {
      int row = 0;
      for (int i = 0; i < n; i++) row = row * 10 + 5 - i;
      Due.is("all give, " + n, x.judged(n, row), NONE);
    }
    Due.is("there is no seventh who gives", x.judged(7, 123450), 6);
    Due.is("an eighth is not asked", x.judged(8, 1234599), 6);
    for (int p = 0; p <= 9; p++) Due.is("judged(1, " + p + ") of one", Due.of(ONE).judged(1, p), p == 0 ? NONE : 0);
    for (int p = 0; p <= 9; p++) Due.is("judged(1, " + p + ") of nobody", new StoneSoup().judged(1, p), 0);
    Due.is("one who gave in this row", x.judged(2, 55), 1);
    Due.is("one who gave ahead of it", Towns.given(SIX, 5).judged(2, 5), 1);
    Due.is("who would only later", Due.of(CHAIN).judged(2, 10), 0);
  }

  private static void shareIs(StoneSoup x, int person, int pot, int above, int below) {
    Due.is("share(" + person + ", " + pot + ") above", x.share(person, pot, true), above);
    Due.is("share(" + person + ", " + pot + ") below", x.share(person, pot, false), below);
  }

  @Sentence(of = "Terms 2", says = "by how much WORTH of THE POT grows when it gives, in the mean of all rows by which the POT comes from the empty one: a FRACTION.")
  static void sharesOfAllRows() {
    shareIs(Due.of(ONE), 0, 1, 8, 1);
    for (int p = 0; p < 6; p++) {
      shareIs(Due.of(GREATEST), p, 63, 12, 1);
      shareIs(Due.of(LEAST), p, 63, 1, 2);
      shareIs(Due.of(LEAST), p, 1 << p, 3, 1);
      shareIs(Due.of(CHAIN), p, 63, 4, 1);
    }
    // five, four, three and two who give one thing
    shareIs(Due.of(LEAST), 0, 31, 3, 5);
    shareIs(Due.of(LEAST), 0, 15, 3, 4);
    shareIs(Due.of(LEAST), 0, 7, 1, 1);
    shareIs(Due.of(LEAST), 0, 3, 3, 2);
    // one row alone: who gives the thing first has all of it, the other one nothing
    shareIs(Due.of("SPa--00-0Pa--19-0"), 0, 3, 3, 1);
    shareIs(Due.of("SPa--00-0Pa--19-0"), 1, 3, 0, 1);
    // whatever THE POT is, and whatever can be no more from it
    shareIs(Towns.given(RIVALS, 0), 1, 2, 4, 1);
  }

  private static void contentAre(String town, int want, int... people) {
    Due.is("content() of " + town, Towns.given(town, people).content(), want);
  }

  @Sentence(of = "Terms 2", says = "WORTH of THE POT is cut into whole parts as alike as can be, one to each who has given (those of lesser number have 1 more, as far as there is more): who has no less than its THING's WORTH.")
  static void whoIsContent() {
    Due.is("content() of nobody", new StoneSoup().content(), 0);
    contentAre(SIX, 0);
    contentAre(GREATEST, 63, 0, 1, 2, 3, 4, 5);
    contentAre(LEAST, 63, 0, 1, 2, 3, 4, 5);
    // 12 for two: 6 and 6
    contentAre("SPa--09-6Pa--09-3", 3, 0, 1);
    contentAre("SPa--09-3Pa--09-6", 3, 0, 1);
    // 13: 7 and 6
    contentAre("SPa--09-7Pa--09-3", 3, 0, 1);
    contentAre("SPa--09-3Pa--09-7", 1, 0, 1);
    contentAre("SPa--09-3Pa--09-7", 1, 1, 0);
    contentAre("SPa--09-8Pa--09-2", 2, 0, 1);
    // 14: 7 and 7
    contentAre("SPa--09-8Pa--09-3", 2, 0, 1);
    // 16 for three: 6, 5, 5; then 17: 6, 6, 5; then 15: 5, 5, 5
    contentAre("SPa--09-6Pa--09-6Pa--09-1", 5, 0, 1, 2);
    contentAre("SPa--09-6Pa--09-2Pa--09-6", 3, 0, 1, 2);
    contentAre("SPa--09-2Pa--09-6Pa--09-6", 3, 2, 1, 0);
    contentAre("SPa--09-6Pa--09-5Pa--09-1", 6, 0, 1, 2);
    // of those who have given, not of all: 13 for 3 and 5
    contentAre("SPa--09-9Pa--09-9Pa--09-9Pa--09-7Pa--09-9Pa--09-3", 40, 5, 3);
    contentAre("SPa--09-9Pa--09-9Pa--09-9Pa--09-3Pa--09-9Pa--09-7", 8, 5, 3);
    // 3 for six: 1, 1, 1, 0, 0, 0; and 4 for six, one of whom is worth 1
    contentAre("SPa--09-0Pa--09-0Pa--09-0Pa--09-1Pa--09-0Pa--09-0", 63, 0, 1, 2, 3, 4, 5);
    contentAre("SPa--09-0Pa--09-0Pa--09-0Pa--09-0Pa--09-1Pa--09-0", 47, 0, 1, 2, 3, 4, 5);
  }

  private static void restsAre(String town, int count, int first) {
    Due.is("rests(0) of " + town, Due.of(town).rests(0), count);
    Due.is("rests(1) of " + town, Due.of(town).rests(1), first);
  }

  @Sentence(of = "Terms 2", says = "POTS that CAN BE from the empty one (whatever THE POT is)")
  static void restsOfTheEmptyPot() {
    for (int p = 0; p <= 2; p++) {
      StoneSoup x = p == 2 ? Due.of(RIVALS) : Towns.given(RIVALS, p);
      Due.is("rests(0) behind " + p, x.rests(0), 2);
      Due.is("rests(1) behind " + p, x.rests(1), 1);
    }
    // a pot that can not be is no rest, though it is like one
    restsAre("SPa--09-3Pa--0900Pb--0929", 1, 3);
    restsAre("S", 1, 0);
    Due.is("rests(0) of no town", new StoneSoup().rests(0), 1);
    restsAre(NEVER, 1, 0);
  }

  @Sentence(of = "Terms 2", says = "at which WORTH of the POT is no less than as often as they are the WORTH of each one's THING")
  static void nobodyWouldHaveMoreAlone() {
    restsAre(ONE, 1, 1);
    // 6 is no less than 2 times 3, 7 is less than 2 times 4
    restsAre("SPa--09-3Pa--0900", 1, 3);
    restsAre("SPa--09-4Pa--0900", 0, NONE);
    restsAre("SPa--09-0Pa--0904", 1, 1);
    // 54 is no less than 6 times 9, 53 is
    restsAre("SPa--09-9Pa--0909Pa--0919Pa--0929Pa--0939Pa--0946", 1, 63);
    restsAre("SPa--09-9Pa--0909Pa--0919Pa--0929Pa--0939Pa--0945", 0, NONE);
  }

  @Sentence(of = "Terms 2", says = "and of each one that WOULD give to it the WORTH of the POT with it is no more than as often as they are then the WORTH of its THING")
  static void nobodyWouldHaveMoreTogether() {
    // 6 is no more than 2 times 3, 5 is more than 2 times 2
    restsAre("SPa--09-0Pa--0903", 2, 1);
    restsAre("SPa--09-0Pa--0902", 1, 3);
    // one who would not give is not asked
    restsAre("SPa--09-0Pb--0910", 1, 1);
    restsAre("SPa--09-0Pb--0900", 1, 3);
    // 12 is no more than 2 times 9
    restsAre("SPa--09-0Pa--0909", 1, 1);
  }

  @Sentence(of = "Terms 2", says = "how many; the first one (least as bits); NONE.")
  static void howManyRests() {
    restsAre(LONELY, 6, 1);
    restsAre(GREATEST, 1, 63);
    restsAre("SPa--0905Pb--00-5Pc--00-5Pd--00-5Pe--00-5Pf--00-5", 5, 2);
    restsAre("SPa--09-4Pa--0900", 0, NONE);
    restsAre("SPf--0905Pf--0915Pf--0925Pf--0935Pf--0945Pf--09-5", 1, 32);
  }

  private static void turnsAre(String town, int wins, int whom, int... people) {
    StoneSoup x = Towns.given(town, people);
    Due.is("byTurns(0) of " + town, x.byTurns(0), wins);
    Due.is("byTurns(1) of " + town, x.byTurns(1), whom);
  }

  @Sentence(of = "Terms 2", says = "two soldiers ask one behind the other one that WOULD, and it gives; who can ask nobody has lost")
  static void whoCanAskNobodyHasLost() {
    turnsAre("S", 0, NONE);
    turnsAre(NEVER, 0, NONE);
    turnsAre(ONE, 1, 0);
    turnsAre(ONE, 0, NONE, 0);
    turnsAre(SIX, 0, NONE);
    turnsAre(SIX, 1, 1, 0);
    turnsAre(SIX, 0, NONE, 0, 1, 2, 3, 4, 5);
    turnsAre(SIX, 1, 5, 0, 1, 2, 3, 4);
    turnsAre(CHAIN, 0, NONE);
    turnsAre(CHAIN, 1, 1, 0);
    turnsAre(LONELY, 1, 0);
    turnsAre(LONELY, 0, NONE, 5);
  }

  @Sentence(of = "Terms 2", says = "whether who asks first from THE POT as it is wins; whom to ask first (the least by whom); NONE.")
  static void theLeastByWhom() {
    // 0 would give, but the other one wins behind it
    turnsAre("SPa--00-1Pb--00-1Pc--0901", 1, 1);
    turnsAre("SPa--00-1Pb--0901Pc--00-1", 1, 2);
    turnsAre("SPa--0901Pb--0911Pc--0921Pd--0931Pe--0941Pf--09-1", 1, 5);
    turnsAre("SPa--00-1Pb--0901", 0, NONE);
    turnsAre("SPa--00-1Pb--0901", 1, 1, 0);
  }

  public static void main(String[] args) throws Exception {
    Sentences.hold(TermsPotsBounds.class);
  }
}
