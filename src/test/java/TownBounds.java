/** Promises 1 to 7: each sentence that names a boundary case. */
public final class TownBounds extends Bounds {
  @Sentence(of = "Promise 1", says = "Nobody.")
  static void aNewObject() {
    StoneSoup x = new StoneSoup();
    Due.same("state", Due.state(x), "0 0 0 0 0 1 0 0 0 0 0");
    Due.is("person(0, 0)", x.person(0, 0), UNKNOWN);
    Due.is("ask(0)", x.ask(0), UNKNOWN);
    Due.is("would(0, 0)", x.would(0, 0), UNKNOWN);
    Due.is("howSoon(0)", x.howSoon(0), UNKNOWN);
    Due.is("bars(0)", x.bars(0), UNKNOWN);
    Due.is("share(0, 0)", x.share(0, 0, true), UNKNOWN);
    Due.is("luck(0, 1, 0, 5)", x.luck(0, 1, 0, 5, true), UNKNOWN);
    Due.is("worth(1)", x.worth(1), BAD);
    Due.is("canBe(0)", x.canBe(0), 1);
    Due.is("rows(0)", x.rows(0), 1);
    Due.is("evening(1)", x.evening(1), LATE);
    Due.is("undo()", x.undo(), LATE);
    Due.is("again(0)", x.again(0), LATE);
    Due.is("again(1)", x.again(1), LATE);
    Due.is("seed(0)", x.seed(0L), 0);
    Due.is("wipe()", x.wipe(), 0);
  }

  @Sentence(of = "Promise 1", says = "Nobody.")
  static void objectsAreByThemselves() {
    StoneSoup x = Towns.brimful();
    StoneSoup y = new StoneSoup();
    Due.same("a new one beside a full one", Due.state(y), "0 0 0 0 0 1 0 0 0 0 0");
    Due.is("seed(0)", y.seed(0L), 0);
    y.write('S');
    y.town();
    y.see(0, 0, true);
    Due.same("the full one", Towns.all(x), Towns.all(Towns.brimful()));
  }

  @Sentence(of = "Promise 2", says = "A byte (0 .. 255) comes behind THE TEXT: how long it is.")
  static void leastAndGreatestByte() {
    StoneSoup x = new StoneSoup();
    Due.is("write(0)", x.write(0), 1);
    Due.is("write(255)", x.write(255), 2);
    Due.is("about(9)", x.about(9), 2);
    for (int letter = 0; letter <= 255; letter++) Due.is("write(" + letter + ")", new StoneSoup().write(letter), 1);
    // behind, not ahead
    Due.is("SP", Towns.told("SP").fault(), 2);
    Due.is("PS", Towns.told("PS").fault(), 0);
  }

  @Sentence(of = "Promise 2", says = "BAD; FULL: there are 56.")
  static void noByteAndNoRoom() {
    for (int letter : new int[] {MIN, -256, -173, -1, 256, 257, 256 + 'S', 65536 + 'S', MAX}) {
      Towns.unchanged("write(" + letter + ")", StoneSoup::new, x -> x.write(letter), BAD);
      Towns.unchanged("write(" + letter + ")", Towns::midway, x -> x.write(letter), BAD);
      Towns.unchanged("write(" + letter + ") when it is full", Towns::brimful, x -> x.write(letter), BAD);
    }
    StoneSoup x = new StoneSoup();
    for (int i = 1; i <= 56; i++) Due.is("write, " + i, x.write('S'), i);
    for (int i = 0; i < 3; i++) Due.is("write, a 57th", x.write('S'), FULL);
    Due.is("about(9)", x.about(9), 56);
    Due.is("wipe()", x.wipe(), 56);
    Due.is("write, wiped", x.write('S'), 1);
    Due.is("fault(), wiped", x.fault(), NONE);
  }

  @Sentence(of = "Promise 3", says = "THE TEXT is empty: how long it was.")
  static void wipedTexts() {
    for (int length : new int[] {0, 1, 49, 55, 56}) {
      StoneSoup x = Towns.told("S".repeat(length));
      Due.is("wipe() of " + length, x.wipe(), length);
      Due.is("about(9)", x.about(9), 0);
      Due.is("fault()", x.fault(), 0);
      Due.is("wipe() again", x.wipe(), 0);
    }
    // the town stays as it was made
    StoneSoup y = Towns.given(SIX, 5);
    y.wipe();
    Due.same("state", Due.state(y), "6 32 32 4 0 1 31 1 0 0 0");
    Due.is("person(5, 0)", y.person(5, 0), 5);
  }

  @Sentence(of = "Promise 4", says = "FAULT; NONE.")
  static void faultsFromFirstToLast() {
    Towns.unchanged("fault() of nothing", StoneSoup::new, StoneSoup::fault, 0);
    Towns.unchanged("fault() of two people", Towns::midway, StoneSoup::fault, NONE);
    Towns.unchanged("fault() of a full text", Towns::brimful, StoneSoup::fault, 49);
    Due.is("at the first place", Towns.told("T").fault(), 0);
    Due.is("behind S", Towns.told("SS").fault(), 1);
    Due.is("at the last place of six", Towns.told(Towns.with(SIX, 48, '-')).fault(), 48);
    Due.is("at its end but for one", Towns.told(SIX.substring(0, 48)).fault(), 48);
    Due.is("behind six", Towns.told(SIX + "S").fault(), 49);
    Due.is("none, of nobody", Towns.told("S").fault(), NONE);
    Due.is("none, of six", Towns.told(SIX).fault(), NONE);
  }

  @Sentence(of = "Promise 5", says = "THE TEXT is THE TOWN")
  static void townsOfNobodyAndOfSix() {
    for (int people = 0; people <= 6; people++) {
      String text = SIX.substring(0, 1 + 8 * people);
      StoneSoup x = Towns.told(text);
      Due.is("town() of " + people, x.town(), people);
      Due.is("about(0)", x.about(0), people);
      Due.is("about(9): the text itself stays", x.about(9), text.length());
      Due.is("fault()", x.fault(), NONE);
    }
    // a greater town, then a lesser one, then a greater one of others
    StoneSoup y = Due.of(GREATEST);
    Due.tell(y, "SPf--1915");
    Due.is("town() of fewer", y.town(), 1);
    Due.is("person(0, 0)", y.person(0, 0), 5);
    Due.is("person(1, 0)", y.person(1, 0), UNKNOWN);
    Due.is("worth(1)", y.worth(1), 8);
    Due.is("worth(2)", y.worth(2), BAD);
    Due.is("canBe(0)", y.canBe(0), 1);
    Due.tell(y, LONELY);
    Due.is("town() of more", y.town(), 6);
    Due.is("worth(63)", y.worth(63), 24);
    Due.is("canBe(0)", y.canBe(0), 7);
    Due.tell(y, "S");
    Due.is("town() of nobody", y.town(), 0);
    Due.is("canBe(0)", y.canBe(0), 1);
    Due.is("about(6)", y.about(6), 0);
  }

  @Sentence(of = "Promise 5", says = "(THE TEXT itself stays; no ACTS; what was kept is gone; SEEN, THE SEED stay): how many PEOPLE.")
  static void whatATownLeaves() {
    StoneSoup x = Towns.midway();
    int fit = x.laws(0);
    Due.is("town() of two", x.town(), 2);
    Due.is("the text", x.about(9), 17);
    Due.is("acts", x.about(7), 0);
    Due.is("undo()", x.undo(), LATE);
    Due.is("again(0)", x.again(0), LATE);
    Due.is("again(1)", x.again(1), LATE);
    Due.is("seen", x.about(8), 2);
    Due.is("laws(0)", x.laws(0), fit);
    Due.is("the seed", x.seed(0L), 77);
    StoneSoup y = Due.of(SIX);
    for (int i = 0; i < 6; i++) y.see(0, 6, false);
    for (int i = 0; i < 20; i++) y.lid();
    y.keep(0);
    y.keep(1);
    y.seed(Long.MIN_VALUE);
    Due.is("town() of the same once more", y.town(), 6);
    Due.same("state", Due.state(y), "6 0 0 0 0 1 63 0 6 49 -9");
    Due.is("undo() behind a full row of acts", y.undo(), LATE);
    Due.is("again(0)", y.again(0), LATE);
    Due.is("again(1)", y.again(1), LATE);
    Due.is("the seed", y.seed(0L), Long.MIN_VALUE);
    for (int i = 1; i <= 17; i++) {
      y.lid();
      Due.is("acts behind it", y.about(7), Math.min(i, 16));
    }
  }

  @Sentence(of = "Promise 5", says = "LATE: a FAULT.")
  static void noTownOfAFault() {
    Towns.unchanged("town() of nothing", StoneSoup::new, StoneSoup::town, LATE);
    Towns.unchanged("town() of a full text", Towns::brimful, StoneSoup::town, LATE);
    for (String text : new String[] {"", "P", "SP", "SPa--09-", "SPg--09-5", SIX.substring(0, 48), SIX + "P", SIX + "S"}) {
      StoneSoup x = Towns.midway();
      Due.tell(x, text);
      Due.is("town() of " + text, x.town(), LATE);
      StoneSoup y = Towns.midway();
      Due.tell(y, text);
      Due.same("all behind town() of " + text, Towns.all(x), Towns.all(y));
    }
  }

  /** Of nobody, when something is there, and when all is as full as it can be. */
  private static void aboutIs(int what, int least, int some, int most) {
    Towns.unchanged("about(" + what + ") of a new one", StoneSoup::new, x -> x.about(what), least);
    Towns.unchanged("about(" + what + ") midway", Towns::midway, x -> x.about(what), some);
    Towns.unchanged("about(" + what + ") of a full one", Towns::brimful, x -> x.about(what), most);
  }

  @Sentence(of = "Promise 6", says = "PEOPLE (what = 0)")
  static void aboutPeople() {
    aboutIs(0, 0, 4, 6);
  }

  @Sentence(of = "Promise 6", says = "THE POT (1: bits)")
  static void aboutThePot() {
    aboutIs(1, 0, 5, 63);
    Due.is("of the last", Towns.given(SIX, 5).about(1), 32);
  }

  @Sentence(of = "Promise 6", says = "THINGS in it (2: bits)")
  static void aboutThings() {
    aboutIs(2, 0, 5, 63);
    Due.is("of the last", Towns.given("SPf--09-0", 0).about(2), 32);
    Due.is("of six like ones", Towns.given(LEAST, 0, 1, 2, 3, 4, 5).about(2), 1);
  }

  @Sentence(of = "Promise 6", says = "its WORTH (3)")
  static void aboutWorth() {
    aboutIs(3, 0, 12, 24);
    Due.is("the greatest", Towns.given(GREATEST, 0, 1, 2, 3, 4, 5).about(3), 72);
    Due.is("the least of one", Towns.given(LEAST, 0).about(3), 3);
  }

  @Sentence(of = "Promise 6", says = "DOUBT (4)")
  static void aboutDoubt() {
    aboutIs(4, 0, 1, 0);
    for (int doubt = 0; doubt <= 9; doubt++) Due.is("doubt", Towns.doubting(SIX, doubt).about(4), doubt);
    StoneSoup x = Towns.doubting(SIX, 9);
    x.lid();
    Due.is("doubt is 9 at most", x.about(4), 9);
  }

  @Sentence(of = "Promise 6", says = "1 if THE LID is on (5)")
  static void aboutTheLid() {
    aboutIs(5, 1, 0, 1);
    StoneSoup x = new StoneSoup();
    for (int i = 1; i <= 30; i++) {
      x.lid();
      Due.is("the lid, " + i, x.about(5), 1 - i % 2);
    }
  }

  @Sentence(of = "Promise 6", says = "who WOULD give now (6: bits)")
  static void aboutWhoWould() {
    aboutIs(6, 0, 2, 0);
    Due.is("all", Due.of(SIX).about(6), 63);
    Due.is("all but one", Towns.given(SIX, 5).about(6), 31);
    Due.is("the last alone", Towns.given(SIX, 0, 1, 2, 3, 4).about(6), 32);
    Due.is("nobody", Due.of(NEVER).about(6), 0);
    Due.is("doubt is not asked", Towns.doubting(SIX, 3).about(6), 63);
  }

  @Sentence(of = "Promise 6", says = "ACTS (7)")
  static void aboutActs() {
    aboutIs(7, 0, 6, 16);
  }

  @Sentence(of = "Promise 6", says = "SEEN (8)")
  static void aboutSeen() {
    aboutIs(8, 0, 2, 6);
  }

  @Sentence(of = "Promise 6", says = "bytes of THE TEXT (9)")
  static void aboutTheText() {
    aboutIs(9, 0, 17, 56);
    StoneSoup x = new StoneSoup();
    for (int i = 1; i <= 58; i++) {
      x.write(i);
      Due.is("about(9)", x.about(9), Math.min(i, 56));
    }
  }

  @Sentence(of = "Promise 6", says = "BAD.")
  static void aboutNothing() {
    for (int what : new int[] {MIN, MIN + 1, -10, -9, -1, 10, 11, 16, 32, 64, 256, 265, MAX}) {
      Towns.unchanged("about(" + what + ")", StoneSoup::new, x -> x.about(what), BAD);
      Towns.unchanged("about(" + what + ")", Towns::midway, x -> x.about(what), BAD);
    }
  }

  /** Of one who is told by the least of all, of one by the greatest, and of one with - wherever it may be. */
  private static void personIs(int what, int least, int greatest, int none) {
    Due.is("person(0, " + what + ")", Due.of("SPaaa0000").person(0, what), least);
    Due.is("person(0, " + what + ")", Due.of("SPfff9959").person(0, what), greatest);
    Due.is("person(0, " + what + ")", Due.of("SPb--12-3").person(0, what), none);
    // the first and the last of six
    String six = "SPaaa0000Pb--12-3Pb--12-3Pb--12-3Pb--12-3Pfff9959";
    Towns.unchanged("person(0, " + what + ") of six", () -> Due.of(six), x -> x.person(0, what), least);
    Towns.unchanged("person(4, " + what + ") of six", () -> Due.of(six), x -> x.person(4, what), none);
    Towns.unchanged("person(5, " + what + ") of six", () -> Due.of(six), x -> x.person(5, what), greatest);
  }

  @Sentence(of = "Promise 7", says = "Of a PERSON its THING (what = 0)")
  static void personsThing() {
    personIs(0, 0, 5, 1);
  }

  @Sentence(of = "Promise 7", says = "n (1; NONE)")
  static void personsN() {
    personIs(1, 0, 5, NONE);
  }

  @Sentence(of = "Promise 7", says = "x (2; NONE)")
  static void personsX() {
    personIs(2, 0, 5, NONE);
  }

  @Sentence(of = "Promise 7", says = "l (3)")
  static void personsL() {
    personIs(3, 0, 9, 1);
  }

  @Sentence(of = "Promise 7", says = "m (4)")
  static void personsM() {
    personIs(4, 0, 9, 2);
  }

  @Sentence(of = "Promise 7", says = "q (5; NONE)")
  static void personsQ() {
    personIs(5, 0, 5, NONE);
    Due.is("one whom there is not", Due.of("SPa--0955").person(0, 5), 5);
  }

  @Sentence(of = "Promise 7", says = "v (6)")
  static void personsV() {
    personIs(6, 0, 9, 3);
  }

  @Sentence(of = "Promise 7", says = "UNKNOWN; BAD.")
  static void noPersonAndNothingToTell() {
    for (int person : Towns.NO_PERSON_OF_FOUR)
      for (int what : new int[] {0, 6, 7, -1})
        Due.is("person(" + person + ", " + what + ")", Due.of(FOUR).person(person, what), UNKNOWN);
    for (int what : new int[] {MIN, MIN + 1, -7, -1, 7, 8, 14, 32, 64, 256, MAX})
      for (int person = 0; person < 4; person++)
        Due.is("person(" + person + ", " + what + ")", Due.of(FOUR).person(person, what), BAD);
    Due.is("person(0, 0) of nobody", Due.of("S").person(0, 0), UNKNOWN);
    Due.is("person(6, 0) of six", Due.of(SIX).person(6, 0), UNKNOWN);
    Due.is("person(5, 7) of six", Due.of(SIX).person(5, 7), BAD);
  }

  public static void main(String[] args) throws Exception {
    Sentences.hold(TownBounds.class);
  }
}
