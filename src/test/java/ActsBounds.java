/** Promises 8 to 10: each sentence that names a boundary case. */
public final class ActsBounds extends Bounds {
  @Sentence(of = "Promise 8", says = "ASKED: how many have given, if it gives; NONE: it does not.")
  static void askings() {
    StoneSoup x = Due.of(SIX);
    for (int i = 1; i <= 6; i++) Due.is("ask(" + (6 - i) + ")", x.ask(6 - i), i);
    Due.is("all gave", x.about(1), 63);
    StoneSoup y = Due.of(CHAIN);
    Due.is("ask(1), too soon", y.ask(1), NONE);
    Due.is("ask(5), too soon", y.ask(5), NONE);
    Due.is("ask(0) at doubt 2", y.ask(0), 1);
    Due.is("ask(2), too soon", y.ask(2), NONE);
    Due.is("ask(1) at doubt 3", y.ask(1), NONE);
    Due.is("doubt", y.about(4), 3);
    Due.is("acts", y.about(7), 5);
    for (int doubt = 0; doubt <= 9; doubt++) {
      Due.is("ask(5) at doubt " + doubt, Towns.doubting(SIX, doubt).ask(5), doubt < 3 ? 1 : NONE);
      StoneSoup z = Towns.doubting(NEVER, doubt);
      Due.is("ask(0) of one who never gives at doubt " + doubt, z.ask(0), NONE);
      Due.is("doubt then", z.about(4), doubt < 3 ? doubt + 1 : doubt);
    }
  }

  @Sentence(of = "Promise 8", says = "UNKNOWN; LATE: it has given.")
  static void refusedAskings() {
    for (int person : Towns.NO_PERSON_OF_FOUR) Towns.unchanged("ask(" + person + ")", Towns::midway, x -> x.ask(person), UNKNOWN);
    Towns.unchanged("ask(0) of nobody", StoneSoup::new, x -> x.ask(0), UNKNOWN);
    Towns.unchanged("ask(6) of six", Towns::brimful, x -> x.ask(6), UNKNOWN);
    Towns.unchanged("ask(2) of one who gave", Towns::midway, x -> x.ask(2), LATE);
    for (int p = 0; p < 6; p++) {
      int person = p;
      Towns.unchanged("ask(" + p + ") when all gave", Towns::brimful, x -> x.ask(person), LATE);
    }
    // LATE at doubt 3 as well
    StoneSoup x = Towns.given("SPa--09-5Pb--0915", 0);
    for (int i = 0; i < 3; i++) x.ask(1);
    Due.is("doubt", x.about(4), 3);
    Due.is("ask(0) at doubt 3", x.ask(0), LATE);
    Due.is("acts", x.about(7), 4);
    // no more LATE when it was undone
    StoneSoup y = Towns.given(ONE, 0);
    y.undo();
    Due.is("ask(0), undone", y.ask(0), 1);
  }

  @Sentence(of = "Promise 9", says = "THE LID is lifted, or put on: DOUBT then.")
  static void lids() {
    StoneSoup nobody = Due.of(SIX);
    for (int i = 1; i <= 22; i++) {
      Due.is("lid(), nobody gave, " + i, nobody.lid(), Math.min((i + 1) / 2, 9));
      Due.is("about(5)", nobody.about(5), 1 - i % 2);
    }
    StoneSoup some = Towns.given("SPa--09-5Pb--0915", 0);
    for (int i = 0; i < 3; i++) some.ask(1);
    int[] doubts = {2, 2, 1, 1, 0, 0, 0, 0};
    for (int i = 0; i < doubts.length; i++) Due.is("lid(), one gave, " + i, some.lid(), doubts[i]);
    // at doubt 2 one gives: the lid that was lifted when nobody had given is then put on, and lifted when one has
    StoneSoup both = Due.of(ONE);
    both.lid();
    both.lid();
    both.lid();
    Due.is("ask(0) at doubt 2, the lid off", both.ask(0), 1);
    Due.is("put on", both.lid(), 2);
    Due.is("lifted", both.lid(), 1);
    Due.is("acts", both.about(7), 6);
  }

  @Sentence(of = "Promise 10", says = "The last ACT is undone: how many are left.")
  static void actsAreUndone() {
    StoneSoup x = Towns.brimful();
    for (int i = 15; i >= 6; i--) Due.is("undo() of a lid", x.undo(), i);
    for (int i = 5; i >= 0; i--) {
      Due.is("undo() of one who gave", x.undo(), i);
      Due.is("the pot", x.about(1), (1 << i) - 1);
    }
    Due.is("undo() of no more", x.undo(), LATE);
    Due.is("the town stays", x.about(0), 6);
    Due.is("the text stays", x.about(9), 56);
    Due.is("seen stays", x.about(8), 6);
    Due.is("the seed stays", x.seed(0L), -1);
    // 9 doubts at most: the lid that made no more of it is undone to 9
    StoneSoup y = Towns.doubting(SIX, 9);
    y.lid();
    Due.is("undo()", y.undo(), 15);
    Due.is("doubt", y.about(4), 9);
    Due.is("the lid", y.about(5), 1);
    // from a full row an act is undone and another one made, as often as one likes
    for (int i = 0; i < 40; i++) {
      y.lid();
      Due.is("acts", y.about(7), 16);
      Due.is("undo()", y.undo(), 15);
    }
  }

  @Sentence(of = "Promise 10", says = "LATE: there is none.")
  static void nothingToUndo() {
    Towns.unchanged("undo() of a new one", StoneSoup::new, StoneSoup::undo, LATE);
    Towns.unchanged("undo() of a new town", () -> Due.of(SIX), StoneSoup::undo, LATE);
    Towns.unchanged("undo() of one act and one more", () -> { StoneSoup x = Towns.given(SIX, 1); x.undo(); return x; }, StoneSoup::undo, LATE);
    Towns.unchanged("undo() behind again()", () -> { StoneSoup x = Towns.midway(); x.again(1); return x; }, StoneSoup::undo, LATE);
    StoneSoup x = Due.of(SIX);
    for (int i = 0; i < 20; i++) x.lid();
    for (int i = 15; i >= 0; i--) Due.is("undo()", x.undo(), i);
    for (int i = 0; i < 3; i++) Due.is("undo() of what is forgotten", x.undo(), LATE);
    Due.is("doubt behind it", x.about(4), 2);
    Due.is("an act again", x.ask(0), 1);
    Due.is("undo() of it", x.undo(), 0);
  }

  public static void main(String[] args) throws Exception {
    Sentences.hold(ActsBounds.class);
  }
}
