/** Part 1 of the terms: each sentence that names a boundary case. */
public final class TermsTownBounds extends Bounds {
  /** What may stand at a place of one who is told, for the first of six and for the last, and what may not. */
  private static void letters(int place, String through, String beyond) {
    for (int person : new int[] {0, 5}) {
      int at = 1 + 8 * person + place;
      for (char c : through.toCharArray())
        Due.is("fault(), " + c + " at " + at, Towns.told(Towns.with(SIX, at, c)).fault(), NONE);
      for (char c : (beyond + (char) 0 + (char) 127 + (char) 128 + (char) 255).toCharArray())
        Due.is("fault(), " + (int) c + " at " + at, Towns.told(Towns.with(SIX, at, c)).fault(), at);
    }
  }

  @Sentence(of = "What it is", says = "An object is used for at most 512 calls after it has been made")
  static void fiveHundredAndTwelveCalls() {
    StoneSoup x = new StoneSoup();
    for (int i = 1; i <= 511; i++) Due.is("lid(), call " + i, x.lid(), Math.min((i + 1) / 2, 9));
    Due.is("about(7), call 512", x.about(7), 16);
  }

  @Sentence(of = "What it is", says = "THINGS are 0 ..")
  static void theFirstThingIsNought() {
    Due.is("person(0, 0) of a", Due.of("SPa--09-5").person(0, 0), 0);
    Due.is("about(2) of a", Towns.given("SPa--09-5", 0).about(2), 1);
  }

  @Sentence(of = "Terms 1", says = "5 (a .. f)")
  static void theLastThingIsFive() {
    for (int i = 0; i < 6; i++) {
      String town = "SP" + (char) ('a' + i) + "--09-5";
      Due.is("person(0, 0) of " + town, Due.of(town).person(0, 0), i);
      Due.is("about(2) of " + town, Towns.given(town, 0).about(2), 1 << i);
    }
  }

  @Sentence(of = "Terms 1", says = "PEOPLE 0, 1, .. (6 at most)")
  static void sixPeopleAtMost() {
    for (int people = 0; people <= 6; people++) {
      StoneSoup x = Towns.told(SIX.substring(0, 1 + 8 * people));
      Due.is("town()", x.town(), people);
      for (int p = 0; p < people; p++) Due.is("person(" + p + ", 0)", x.person(p, 0), p);
      Due.is("person(" + people + ", 0)", x.person(people, 0), UNKNOWN);
      Due.is("person(-1, 0)", x.person(-1, 0), UNKNOWN);
    }
    StoneSoup seven = Towns.told(SIX + "Pa--09-");
    Due.is("town() of a seventh", seven.town(), LATE);
    Due.is("fault() of a seventh", seven.fault(), 49);
  }

  @Sentence(of = "Terms 1", says = "sets of these bits")
  static void setsAreBits() {
    for (int p = 0; p < 6; p++) {
      StoneSoup x = Towns.given(SIX, p);
      Due.is("about(1) of " + p, x.about(1), 1 << p);
      Due.is("about(2) of " + p, x.about(2), 1 << p);
      Due.is("about(6) of " + p, x.about(6), 63 - (1 << p));
    }
    Due.is("about(1) of nobody", Due.of(SIX).about(1), 0);
    Due.is("about(1) of all", Towns.given(SIX, 5, 4, 3, 2, 1, 0).about(1), 63);
    Due.is("about(2) of all", Towns.given(SIX, 5, 4, 3, 2, 1, 0).about(2), 63);
  }

  @Sentence(of = "Terms 1", says = "THE TEXT is bytes (56 at most)")
  static void fiftySixBytesAtMost() {
    StoneSoup x = Towns.told(SIX);
    for (int i = 50; i <= 56; i++) Due.is("write", x.write(i), i);
    Due.is("the 57th", x.write(57), FULL);
    Due.is("about(9)", x.about(9), 56);
    Due.is("wipe()", x.wipe(), 56);
    Due.is("about(9), wiped", x.about(9), 0);
  }

  @Sentence(of = "Terms 1", says = "A TOWN is a TEXT: S, then PEOPLE, none or more, numbered as they are told: P, then")
  static void noneOrMoreAreTold() {
    Due.is("town() of S", Towns.told("S").town(), 0);
    Due.is("town() of nothing", Towns.told("").town(), LATE);
    Due.is("town() of P", Towns.told("Pa--09-5").town(), LATE);
    for (char c : ("RTsP-a" + (char) 0 + (char) 211 + (char) 255).toCharArray())
      Due.is("fault(), ahead " + (int) c, Towns.told(Towns.with(SIX, 0, c)).fault(), 0);
    letters(0, "P", "OQpSa-0");
    StoneSoup x = Due.of("SPa--09-0Pa--09-1Pa--09-2Pa--09-3Pa--09-4Pa--09-5");
    for (int p = 0; p < 6; p++) Due.is("person(" + p + ", 6)", x.person(p, 6), p);
  }

  @Sentence(of = "Terms 1", says = "t its THING (a .. f; many may have one)")
  static void thingsOfOne() {
    letters(1, "abcdef", "`g-AF0");
    StoneSoup many = Towns.given(LEAST, 0, 1, 2, 3, 4, 5);
    Due.is("about(2) of six who have one", many.about(2), 1);
  }

  @Sentence(of = "Terms 1", says = "n a THING that must be in THE POT (a .. f), or -")
  static void thingThatMustBeThere() {
    letters(2, "abcdef-", "`g,.AF0");
    for (int i = 0; i < 6; i++) {
      String town = Towns.with("SPa--09-0Pb--09-0Pc--09-0Pd--09-0Pe--09-0Pf--09-0", 1 + 8 * 5 + 2, (char) ('a' + i));
      StoneSoup x = Due.of(town);
      Due.is(town + ", the empty pot", x.would(5, 0), 0);
      for (int p = 0; p < 5; p++) Due.is(town + ", the pot of " + p, x.would(5, 1 << p), p == i ? 1 : 0);
      Due.is(town + ", all others", x.would(5, 31), i < 5 ? 1 : 0);
      Due.is(town + ", all others but one", x.would(5, 31 & ~(1 << i)), 0);
    }
    Due.is("-: the empty pot", Due.of(SIX).would(5, 0), 1);
    Due.is("its own thing, of another one", Due.of("SPaa-09-0Pa--09-0").would(0, 2), 1);
    Due.is("its own thing, of nobody", Due.of("SPaa-09-0Pa--09-0").would(0, 0), 0);
    Due.is("f, of another one", Due.of("SPaf-09-0Pf--09-0").would(0, 2), 1);
  }

  @Sentence(of = "Terms 1", says = "x a THING that must not be there, or -")
  static void thingThatMustNotBeThere() {
    letters(3, "abcdef-", "`g,.AF0");
    for (int i = 0; i < 6; i++) {
      String town = Towns.with("SPa--09-0Pb--09-0Pc--09-0Pd--09-0Pe--09-0Pf--09-0", 1 + 8 * 5 + 3, (char) ('a' + i));
      StoneSoup x = Due.of(town);
      Due.is(town + ", the empty pot", x.would(5, 0), 1);
      for (int p = 0; p < 5; p++) Due.is(town + ", the pot of " + p, x.would(5, 1 << p), p == i ? 0 : 1);
      Due.is(town + ", all others", x.would(5, 31), i < 5 ? 0 : 1);
      Due.is(town + ", all others but one", x.would(5, 31 & ~(1 << i)), 1);
    }
    Due.is("-: all others", Due.of(SIX).would(5, 31), 1);
    Due.is("its own thing, of another one", Due.of("SPa-a09-0Pa--09-0").would(0, 2), 0);
    Due.is("its own thing, of nobody", Due.of("SPa-a09-0Pa--09-0").would(0, 0), 1);
    Due.is("f, of another one", Due.of("SPa-f09-0Pf--09-0").would(0, 2), 0);
    Due.is("n and x alike, there", Due.of("SPaff09-0Pf--09-0").would(0, 2), 0);
    Due.is("n and x alike, not there", Due.of("SPaff09-0Pf--09-0").would(0, 0), 0);
  }

  @Sentence(of = "Terms 1", says = "l, m how many must have given at least (0 .. 9), at most (0 .. 9)")
  static void howManyMustHaveGiven() {
    letters(4, "0123456789", "/:-a");
    letters(5, "0123456789", "/:-a");
    for (int bound = 0; bound <= 9; bound++) {
      char figure = (char) ('0' + bound);
      StoneSoup least = Due.of(Towns.with(SIX, 1 + 8 * 5 + 4, figure));
      StoneSoup most = Due.of(Towns.with(SIX, 1 + 8 * 5 + 5, figure));
      for (int gave = 0; gave <= 5; gave++) {
        int pot = (1 << gave) - 1;
        Due.is("l is " + bound + ", " + gave + " gave", least.would(5, pot), gave >= bound ? 1 : 0);
        Due.is("m is " + bound + ", " + gave + " gave", most.would(5, pot), gave <= bound ? 1 : 0);
      }
    }
    Due.is("l and m alike: fewer", Due.of("SPa--11-0Pb--09-0Pc--09-0").would(0, 0), 0);
    Due.is("l and m alike: as many", Due.of("SPa--11-0Pb--09-0Pc--09-0").would(0, 2), 1);
    Due.is("l and m alike: more", Due.of("SPa--11-0Pb--09-0Pc--09-0").would(0, 6), 0);
    Due.is("fault() of l above m", Towns.told("SPa--90-0").fault(), NONE);
    Due.is("l above m", Due.of("SPa--10-0Pb--09-0").would(0, 2), 0);
    Due.is("l above m, the empty pot", Due.of("SPa--10-0Pb--09-0").would(0, 0), 0);
  }

  @Sentence(of = "Terms 1", says = "q a PERSON who must have given (0 .. 5; if there is no such one, nobody has), or -")
  static void whoMustHaveGiven() {
    letters(6, "012345-", "/6,.9a");
    for (int q = 0; q <= 5; q++) {
      StoneSoup last = Due.of(Towns.with(SIX, 1 + 8 * 5 + 6, (char) ('0' + q)));
      Due.is("q is " + q + ", the empty pot", last.would(5, 0), 0);
      for (int p = 0; p < 5; p++) Due.is("q is " + q + ", the pot of " + p, last.would(5, 1 << p), p == q ? 1 : 0);
      Due.is("q is " + q + ", all others", last.would(5, 31), q < 5 ? 1 : 0);
    }
    StoneSoup first = Due.of(Towns.with(SIX, 1 + 6, '5'));
    Due.is("q is 5, the pot of 5", first.would(0, 32), 1);
    Due.is("q is 5, the pot of the others", first.would(0, 30), 0);
    StoneSoup none = Due.of("SPa--0910Pb--0920");
    Due.is("q is 1 of two", none.would(0, 2), 1);
    Due.is("q is 2 of two: there is none", none.would(1, 1), 0);
    Due.is("q is 5 of one: there is none", Due.of("SPa--0955").would(0, 0), 0);
    Due.is("q is oneself", Due.of(NEVER).would(0, 0), 0);
  }

  @Sentence(of = "Terms 1", says = "v WORTH of its THING (0 .. 9)")
  static void worthOfAThing() {
    letters(7, "0123456789", "/:-a");
    for (int v = 0; v <= 9; v++) {
      StoneSoup x = Due.of("SPa--09-" + v);
      Due.is("person(0, 6)", x.person(0, 6), v);
      Due.is("worth(1)", x.worth(1), v + 3);
    }
  }

  @Sentence(of = "Terms 1", says = "the place (from 0) of the first byte by which THE TEXT can be no TOWN, whatever came behind it (its length set aside)")
  static void placeOfTheFault() {
    Due.is("the first place", Towns.told("xPa--09-5").fault(), 0);
    for (int at = 0; at < SIX.length(); at++) {
      Due.is("place " + at, Towns.told(Towns.with(SIX, at, '!')).fault(), at);
      Due.is("place " + at + ", at the end", Towns.told(SIX.substring(0, at) + "!").fault(), at);
      Due.is("of two the first, " + at, Towns.told(Towns.with(SIX, at, '!') + "!").fault(), at);
    }
    Due.is("behind six, P", Towns.told(SIX + "P").fault(), 49);
    Due.is("behind six, any other", Towns.told(SIX + (char) 0).fault(), 49);
    Due.is("behind six, a seventh", Towns.told(SIX + "Pa--09-").fault(), 49);
    StoneSoup full = Towns.told("S!" + SIX.substring(2) + "PPPPPPP");
    Due.is("of a full text", full.fault(), 1);
    Due.is("of a full text of no fault but its length", Towns.told(SIX + "PPPPPPP").fault(), 49);
  }

  @Sentence(of = "Terms 1", says = "its length, if it is only not at its end")
  static void lengthOfWhatIsNotAtItsEnd() {
    Due.is("nothing", new StoneSoup().fault(), 0);
    for (int length = 0; length < SIX.length(); length++)
      Due.is("length " + length, Towns.told(SIX.substring(0, length)).fault(), length % 8 == 1 ? NONE : length);
  }

  @Sentence(of = "Terms 1", says = "NONE: none.")
  static void noFault() {
    for (int people = 0; people <= 6; people++)
      Due.is(people + " people", Towns.told(SIX.substring(0, 1 + 8 * people)).fault(), NONE);
    Due.is("the least of all", Towns.told("SPaaa0000").fault(), NONE);
    Due.is("the greatest of all", Towns.told("SPfff9959").fault(), NONE);
    Due.is("- wherever it may be", Towns.told("SPa--00-0").fault(), NONE);
  }

  @Sentence(of = "Terms 1", says = "At first there is nobody.")
  static void nobodyAtFirst() {
    StoneSoup x = new StoneSoup();
    Due.is("about(0)", x.about(0), 0);
    for (int p : new int[] {0, 1, 5, -1}) Due.is("person(" + p + ", 0)", x.person(p, 0), UNKNOWN);
    Due.is("worth(0)", x.worth(0), 0);
    Due.is("worth(1)", x.worth(1), BAD);
  }

  @Sentence(of = "Terms 1", says = "Nobody has given, DOUBT is 0, THE LID is on, and when THE TOWN is made anew.")
  static void howAnEveningBegins() {
    begins("new", new StoneSoup());
    StoneSoup x = Towns.doubting(SIX, 9);
    x.lid();
    Due.is("the lid is off", x.about(5), 0);
    Due.is("town() anew", x.town(), 6);
    begins("the town anew, behind doubt 9 and a lid that is off", x);
    StoneSoup y = Towns.given(SIX, 0, 1, 2, 3, 4, 5);
    Due.is("town() anew", y.town(), 6);
    begins("the town anew, behind all", y);
    StoneSoup z = Towns.given(SIX, 0, 5);
    Due.tell(z, "S");
    Due.is("town() of nobody", z.town(), 0);
    begins("nobody, behind two", z);
  }

  private static void begins(String which, StoneSoup x) {
    Due.is(which + ": about(1)", x.about(1), 0);
    Due.is(which + ": about(4)", x.about(4), 0);
    Due.is(which + ": about(5)", x.about(5), 1);
    Due.is(which + ": about(7)", x.about(7), 0);
  }

  @Sentence(of = "Terms 1", says = "A POT is the set of those who have given.")
  static void emptyPotAndFullPot() {
    Due.is("nobody", Due.of(SIX).about(1), 0);
    StoneSoup x = Due.of(SIX);
    int pot = 0;
    for (int p : new int[] {3, 0, 5, 1, 4, 2}) {
      x.ask(p);
      pot += 1 << p;
      Due.is("about(1)", x.about(1), pot);
    }
    StoneSoup y = Due.of(NEVER);
    y.ask(0);
    Due.is("one who was asked and did not give", y.about(1), 0);
  }

  @Sentence(of = "Terms 1", says = "One WOULD give to a POT, if it is not of it, and all that is told of it is so by that POT.")
  static void whoWouldGive() {
    StoneSoup x = Due.of(SIX);
    for (int pot = 0; pot < 64; pot++)
      for (int p = 0; p < 6; p++) Due.is("would(" + p + ", " + pot + ")", x.would(p, pot), 1 - (pot >> p & 1));
    // of the last one each thing that is told is in turn the only one that is not so
    String others = "SPa--09-0Pb--09-0Pa--09-0Pd--09-0Pa--09-0";
    StoneSoup y = Due.of(others + "Pfab2320");
    Due.is("all is so", y.would(5, 5), 1);
    Due.is("all is so, three", y.would(5, 13), 1);
    Due.is("fewer than l", y.would(5, 4), 0);
    Due.is("more than m", y.would(5, 29), 0);
    Due.is("x is there", y.would(5, 6), 0);
    Due.is("q is not of it", y.would(5, 9), 0);
    Due.is("it is of it itself", y.would(5, 37), 0);
    Due.is("n is not there", Due.of("SPc--09-0Pd--09-0Pfab1300").would(2, 3), 0);
    Due.is("n is there", Due.of("SPa--09-0Pd--09-0Pfab1300").would(2, 3), 1);
  }

  @Sentence(of = "Terms 1", says = "ASKED: DOUBT is 3 at least: it does not give (DOUBT stays)")
  static void askedAtDoubtThree() {
    for (int doubt = 3; doubt <= 9; doubt++) {
      StoneSoup x = Towns.doubting("SPa--09-5Pb--0915", doubt);
      for (int p = 0; p <= 1; p++) {
        Due.is("ask(" + p + ") at doubt " + doubt, x.ask(p), NONE);
        Due.is("doubt stays " + doubt, x.about(4), doubt);
        Due.is("nobody gave at doubt " + doubt, x.about(1), 0);
      }
    }
  }

  @Sentence(of = "Terms 1", says = "else if it WOULD, it gives")
  static void askedAtDoubtTwo() {
    for (int doubt = 0; doubt <= 2; doubt++) {
      StoneSoup x = Towns.doubting(SIX, doubt);
      for (int p = 5; p >= 0; p--) Due.is("ask(" + p + ") at doubt " + doubt, x.ask(p), 6 - p);
      Due.is("doubt stays " + doubt, x.about(4), doubt);
      Due.is("all gave", x.about(1), 63);
    }
  }

  @Sentence(of = "Terms 1", says = "if not, DOUBT is 1 more.")
  static void askedInVain() {
    StoneSoup x = Due.of("SPa--09-5Pb--0915");
    for (int doubt = 1; doubt <= 3; doubt++) {
      Due.is("ask(1)", x.ask(1), NONE);
      Due.is("doubt", x.about(4), doubt);
    }
    Due.is("ask(1) at doubt 3", x.ask(1), NONE);
    Due.is("doubt is 3 at most by that", x.about(4), 3);
    Due.is("ask(0) at doubt 3", x.ask(0), NONE);
  }

  @Sentence(of = "Terms 1", says = "THE LID, if it is on, is lifted: DOUBT is 1 less (0 at least), if somebody has given")
  static void liftedWhenSomebodyGave() {
    for (int doubt = 0; doubt <= 3; doubt++) {
      StoneSoup x = Towns.given("SPa--09-5Pb--0915", 0);
      for (int i = 0; i < doubt; i++) x.ask(1);
      Due.is("doubt", x.about(4), doubt);
      Due.is("lid() at doubt " + doubt, x.lid(), Math.max(doubt - 1, 0));
      Due.is("about(4)", x.about(4), Math.max(doubt - 1, 0));
      Due.is("it is off", x.about(5), 0);
    }
    StoneSoup last = Towns.given(SIX, 5);
    Due.is("the last one alone has given", last.lid(), 0);
  }

  @Sentence(of = "Terms 1", says = "else 1 more (9 at most)")
  static void liftedWhenNobodyGave() {
    for (int doubt = 0; doubt <= 9; doubt++) {
      StoneSoup x = Towns.doubting(SIX, doubt);
      Due.is("lid() at doubt " + doubt, x.lid(), Math.min(doubt + 1, 9));
      Due.is("about(4)", x.about(4), Math.min(doubt + 1, 9));
      Due.is("it is off", x.about(5), 0);
    }
    StoneSoup nobody = new StoneSoup();
    for (int i = 1; i <= 12; i++) {
      Due.is("lid() of no town, lifted", nobody.lid(), Math.min(i, 9));
      Due.is("lid() of no town, put on", nobody.lid(), Math.min(i, 9));
    }
  }

  @Sentence(of = "Terms 1", says = "if it is off, it is put on (nothing more).")
  static void putOn() {
    for (int doubt = 0; doubt <= 9; doubt++) {
      StoneSoup x = Towns.doubting(SIX, doubt);
      x.lid();
      Due.is("put on, nobody gave, behind doubt " + doubt, x.lid(), Math.min(doubt + 1, 9));
      Due.is("it is on", x.about(5), 1);
    }
    StoneSoup y = Towns.given("SPa--09-5Pb--0915", 0);
    y.lid();
    y.ask(1);
    y.ask(1);
    Due.is("put on, one gave, doubt 2", y.lid(), 2);
    Due.is("it is on", y.about(5), 1);
    Due.is("the pot stays", y.about(1), 1);
  }

  @Sentence(of = "Terms 1", says = "ACTS (ASKED, LIDS; also such by which nothing becomes another)")
  static void actsByWhichNothingBecomesAnother() {
    StoneSoup x = Towns.doubting(SIX, 3);
    Due.is("acts", x.about(7), 6);
    String before = Due.state(x).replace(" 6 0 49", " 7 0 49");
    Due.is("ask(0) at doubt 3", x.ask(0), NONE);
    Due.same("only one act more", Due.state(x), before);
    Due.is("undo() of it", x.undo(), 6);
    Due.is("doubt behind it", x.about(4), 3);
    Due.is("the lid behind it", x.about(5), 1);
    StoneSoup y = Towns.doubting(SIX, 3);
    y.ask(-1);
    y.ask(6);
    y.undo();
    Due.is("what was refused was no act", y.about(7), 5);
    Due.is("the lid is off again", y.about(5), 0);
    StoneSoup z = Towns.given(SIX, 0);
    z.ask(0);
    Due.is("LATE is no act", z.about(7), 1);
  }

  @Sentence(of = "Terms 1", says = "(16 at most; when it is full, the first one is forgotten)")
  static void sixteenActsAtMost() {
    for (int acts = 14; acts <= 34; acts++) {
      StoneSoup x = Towns.given(SIX, 3);
      for (int i = 1; i < acts; i++) {
        Due.is("acts", x.about(7), Math.min(i, 16));
        x.lid();
      }
      int left = Math.min(acts, 16);
      for (int i = left - 1; i >= 0; i--) Due.is("undo() behind " + acts, x.undo(), i);
      Due.is("undo() of no more, behind " + acts, x.undo(), LATE);
      Due.is("the pot behind " + acts, x.about(1), acts > 16 ? 8 : 0);
      Due.is("the lid behind " + acts, x.about(5), acts > 16 ? acts % 2 : 1);
    }
  }

  @Sentence(of = "Terms 1", says = "the last one can be undone.")
  static void theLastActIsUndone() {
    StoneSoup x = Due.of("SPa--09-5Pb--0915");
    Due.is("undo() of none", x.undo(), LATE);
    x.ask(1);
    x.ask(0);
    x.lid();
    x.lid();
    Due.is("undo() of the lid put on", x.undo(), 3);
    Due.is("the lid", x.about(5), 0);
    Due.is("doubt", x.about(4), 0);
    Due.is("undo() of the lid lifted", x.undo(), 2);
    Due.is("the lid", x.about(5), 1);
    Due.is("doubt", x.about(4), 1);
    Due.is("undo() of who gave", x.undo(), 1);
    Due.is("the pot", x.about(1), 0);
    Due.is("undo() of who did not", x.undo(), 0);
    Due.is("doubt", x.about(4), 0);
    Due.is("undo() of no more", x.undo(), LATE);
  }

  @Sentence(of = "Terms 1", says = "WORTH of a POT: of all its THINGS, together, and 3 for each unlike one.")
  static void leastAndGreatestWorth() {
    Due.is("the empty pot", Due.of(GREATEST).worth(0), 0);
    Due.is("all of the greatest", Due.of(GREATEST).worth(63), 72);
    Due.is("the last of the greatest", Due.of(GREATEST).worth(32), 12);
    Due.is("one of worth nothing", Due.of(LEAST).worth(32), 3);
    Due.is("two like ones", Due.of(LEAST).worth(48), 3);
    Due.is("six like ones", Due.of(LEAST).worth(63), 3);
    Due.is("two unlike ones", Due.of("SPa--09-0Pf--09-0").worth(3), 6);
    Due.is("two pairs", Due.of("SPa--09-1Pf--09-2Pa--09-3Pf--09-4").worth(15), 16);
  }

  public static void main(String[] args) throws Exception {
    Sentences.hold(TermsTownBounds.class);
  }
}
