/** Promises 20 to 23: each sentence that names a boundary case. */
public final class SharesBounds extends Bounds {
  private static final int[] NO_TWO = {MIN, MIN + 1, -2, -1, 2, 3, 32, 33, 64, 256, MAX};

  private static void shareIs(String town, int person, int pot, int above, int below) {
    StoneSoup x = Due.of(town);
    String call = "share(" + person + ", " + pot + ") of " + town;
    Due.is(call + " above", x.share(person, pot, true), above);
    Due.is(call + " below", x.share(person, pot, false), below);
  }

  @Sentence(of = "Promise 20", says = "SHARE.")
  static void leastAndGreatestShare() {
    shareIs("SPa--00-0Pa--19-0", 1, 3, 0, 1);
    shareIs(ONE, 0, 1, 8, 1);
    shareIs("SPa--09-9", 0, 1, 12, 1);
    for (int p = 0; p < 6; p++) {
      shareIs(SIX, p, 63, 4, 1);
      shareIs(LEAST, p, 63, 1, 2);
      shareIs(CHAIN, p, 63, 4, 1);
    }
    shareIs("SPa--09-9Pa--09-9Pa--09-9Pa--09-9Pa--09-9Pa--09-9", 5, 63, 19, 2);
    shareIs(LEAST, 4, 31, 3, 5);
    // who can only come last, behind one who gives the same thing
    shareIs("SPa--29-0Pa--09-0Pb--09-0", 0, 7, 0, 1);
    shareIs("SPa--29-0Pa--09-0Pb--09-0", 1, 7, 3, 1);
    // of three rows 1 gives the thing ahead of 0 in two
    shareIs("SPa--09-0Pa-b09-0Pb--09-0", 0, 7, 1, 1);
    shareIs("SPa--09-0Pa-b09-0Pb--09-0", 1, 7, 2, 1);
    Towns.unchanged("share(0, 5) above", Towns::midway, x -> x.share(0, 5, true), 5);
    Towns.unchanged("share(0, 5) below", Towns::midway, x -> x.share(0, 5, false), 1);
    // of a pot that can be no more from THE POT as it is
    Due.is("share(0, 1) when 1 gave", Towns.given(RIVALS, 1).share(0, 1, true), 4);
  }

  @Sentence(of = "Promise 20", says = "UNKNOWN; BAD: pot; LATE: it is not of it, or it can not come from the empty one.")
  static void noShare() {
    for (boolean upper : new boolean[] {true, false}) {
      for (int person : Towns.NO_PERSON_OF_FOUR)
        for (int pot : new int[] {5, 0, 8, 16, -1})
          Due.is("share(" + person + ", " + pot + ")", Due.of(FOUR).share(person, pot, upper), UNKNOWN);
      for (int pot : Towns.NO_POT_OF_FOUR) Towns.unchanged("share(0, " + pot + ")", Towns::midway, x -> x.share(0, pot, upper), BAD);
      Towns.unchanged("share(1, 5), not of it", Towns::midway, x -> x.share(1, 5, upper), LATE);
      Towns.unchanged("share(0, 0), not of it", Towns::midway, x -> x.share(0, 0, upper), LATE);
      Towns.unchanged("share(1, 2), it can not come", Towns::midway, x -> x.share(1, 2, upper), LATE);
      Towns.unchanged("share(3, 13), it can not come", Towns::midway, x -> x.share(3, 13, upper), LATE);
      Towns.unchanged("share(0, 2), neither", Towns::midway, x -> x.share(0, 2, upper), LATE);
      for (int p = 0; p < 6; p++) {
        Due.is("share(" + p + ", all but it)", Due.of(SIX).share(p, 63 - (1 << p), upper), LATE);
        Due.is("share(" + p + ", 64)", Due.of(SIX).share(p, 64, upper), BAD);
        Due.is("share(" + p + ", it alone) of a chain", Due.of(CHAIN).share(p, 1 << p, upper), p == 0 ? upper ? 4 : 1 : LATE);
      }
      Due.is("share(0, 1) of one who never gives", Due.of(NEVER).share(0, 1, upper), LATE);
      Due.is("share(0, 0) of nobody", new StoneSoup().share(0, 0, upper), UNKNOWN);
    }
  }

  private static void contentAre(String town, int want, int... people) {
    Towns.unchanged("content() of " + town, () -> Towns.given(town, people), StoneSoup::content, want);
  }

  @Sentence(of = "Promise 21", says = "CONTENT, as bits.")
  static void content() {
    contentAre("S", 0);
    contentAre(SIX, 0);
    contentAre(ONE, 1, 0);
    contentAre(SIX, 32, 5);
    contentAre(SIX, 63, 5, 4, 3, 2, 1, 0);
    contentAre(GREATEST, 63, 5, 4, 3, 2, 1, 0);
    // 12 for one, and for two: 6 and 6
    contentAre("SPa--09-9Pa--09-0", 1, 0);
    contentAre("SPa--09-9Pa--09-0", 2, 0, 1);
    // 13 for two, 7 and 6: 8 is 1 too much
    contentAre("SPa--09-7Pa--09-3", 3, 0, 1);
    contentAre("SPa--09-8Pa--09-2", 2, 0, 1);
    // 33 for six: 6, 6, 6, 5, 5, 5; and 32: 6, 6, 5, 5, 5, 5
    contentAre("SPa--09-6Pa--09-6Pa--09-6Pa--09-6Pa--09-6Pa--09-0", 39, 0, 1, 2, 3, 4, 5);
    contentAre("SPa--09-6Pa--09-6Pa--09-6Pa--09-6Pa--09-5Pa--09-0", 51, 0, 1, 2, 3, 4, 5);
  }

  private static void restsAre(String town, int count, int first) {
    Towns.unchanged("rests(0) of " + town, () -> Due.of(town), x -> x.rests(0), count);
    Towns.unchanged("rests(1) of " + town, () -> Due.of(town), x -> x.rests(1), first);
  }

  @Sentence(of = "Promise 22", says = "RESTS: how many (what = 0), the first one (1: bits); NONE (of 1).")
  static void rests() {
    restsAre("S", 1, 0);
    restsAre(NEVER, 1, 0);
    restsAre(ONE, 1, 1);
    restsAre(GREATEST, 1, 63);
    restsAre(LONELY, 6, 1);
    restsAre("SPa--09-4Pa--0900", 0, NONE);
    restsAre("SPa--0905Pb--0915Pc--0925Pd--0935Pe--0945Pf--09-5", 1, 32);
    Towns.unchanged("rests(0), whatever the pot is", Towns::midway, x -> x.rests(0), Due.of(FOUR).rests(0));
    Towns.unchanged("rests(1), whatever the pot is", Towns::midway, x -> x.rests(1), Due.of(FOUR).rests(1));
  }

  @Sentence(of = "Promise 22", says = "BAD.")
  static void restsOfNothing() {
    for (int what : NO_TWO) Towns.unchanged("rests(" + what + ")", Towns::midway, x -> x.rests(what), BAD);
    Due.is("rests(2) where there is none", Due.of("SPa--09-4Pa--0900").rests(2), BAD);
    Due.is("rests(2) of nobody", new StoneSoup().rests(2), BAD);
  }

  private static void turnsAre(String town, int wins, int whom, int... people) {
    Towns.unchanged("byTurns(0) of " + town, () -> Towns.given(town, people), x -> x.byTurns(0), wins);
    Towns.unchanged("byTurns(1) of " + town, () -> Towns.given(town, people), x -> x.byTurns(1), whom);
  }

  @Sentence(of = "Promise 23", says = "BY TURNS: 1 if who asks first wins, 0 (what = 0), whom to ask (1); NONE (of 1).")
  static void turns() {
    turnsAre("S", 0, NONE);
    turnsAre(NEVER, 0, NONE);
    turnsAre(ONE, 1, 0);
    turnsAre(ONE, 0, NONE, 0);
    turnsAre(CHAIN, 0, NONE);
    for (int gave = 1; gave <= 6; gave++) {
      int[] people = new int[gave];
      for (int i = 0; i < gave; i++) people[i] = i;
      turnsAre(CHAIN, gave % 2, gave % 2 == 1 ? gave : NONE, people);
    }
    turnsAre("SPa--0905Pb--0915Pc--0925Pd--0935Pe--0945Pf--09-5", 1, 5);
    turnsAre("SPa--00-1Pb--00-1Pc--0901", 1, 1);
    turnsAre(LONELY, 1, 0);
    Towns.unchanged("byTurns(0)", Towns::midway, x -> x.byTurns(0), 0);
    Towns.unchanged("byTurns(1)", Towns::midway, x -> x.byTurns(1), NONE);
    Due.is("byTurns(0) at doubt 9", Towns.doubting(ONE, 9).byTurns(0), 1);
  }

  @Sentence(of = "Promise 23", says = "BAD.")
  static void turnsOfNothing() {
    for (int what : NO_TWO) Towns.unchanged("byTurns(" + what + ")", Towns::midway, x -> x.byTurns(what), BAD);
    Due.is("byTurns(2) of nobody", new StoneSoup().byTurns(2), BAD);
  }

  public static void main(String[] args) throws Exception {
    Sentences.hold(SharesBounds.class);
  }
}
