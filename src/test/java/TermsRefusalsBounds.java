/** Part 4 of the terms: each sentence that names a boundary case. */
public final class TermsRefusalsBounds extends Bounds {
  @Sentence(of = "Terms 4", says = "UNKNOWN -1 (there is no such PERSON, SLOT)")
  static void unknown() {
    Due.is("UNKNOWN", StoneSoup.UNKNOWN, -1);
    for (int person : Towns.NO_PERSON_OF_FOUR) {
      Towns.unchanged("person(" + person + ", 0)", Towns::midway, x -> x.person(person, 0), UNKNOWN);
      Towns.unchanged("ask(" + person + ")", Towns::midway, x -> x.ask(person), UNKNOWN);
      Towns.unchanged("would(" + person + ", 0)", Towns::midway, x -> x.would(person, 0), UNKNOWN);
      Towns.unchanged("howSoon(" + person + ")", Towns::midway, x -> x.howSoon(person), UNKNOWN);
      Towns.unchanged("bars(" + person + ")", Towns::midway, x -> x.bars(person), UNKNOWN);
      Towns.unchanged("share(" + person + ", 5)", Towns::midway, x -> x.share(person, 5, true), UNKNOWN);
      Towns.unchanged("luck(" + person + ", 1, 0, 5)", Towns::midway, x -> x.luck(person, 1, 0, 5, true), UNKNOWN);
    }
    for (int slot : Towns.NO_SLOT) {
      Towns.unchanged("keep(" + slot + ")", Towns::midway, x -> x.keep(slot), UNKNOWN);
      Towns.unchanged("again(" + slot + ")", Towns::midway, x -> x.again(slot), UNKNOWN);
    }
    // whom the greatest town has, a lesser one has not, and nobody is in none
    for (int p = 0; p <= 5; p++)
      for (int people = 0; people <= 6; people++)
        Due.is("ask(" + p + ") of " + people, Due.of(SIX.substring(0, 1 + 8 * people)).ask(p), p < people ? 1 : UNKNOWN);
  }

  private static void bad(String name, Towns.Call call) {
    Towns.unchanged(name, Towns::midway, call, BAD);
    Towns.unchanged(name + " when all is full", Towns::brimful, call, BAD);
  }

  @Sentence(of = "Terms 4", says = "BAD -2")
  static void bad() {
    Due.is("BAD", StoneSoup.BAD, -2);
    for (int i : new int[] {MIN, -1, MAX}) {
      bad("write(" + i + ")", x -> x.write(i));
      bad("about(" + i + ")", x -> x.about(i));
      bad("person(0, " + i + ")", x -> x.person(0, i));
      bad("would(0, " + i + ")", x -> x.would(0, i));
      bad("worth(" + i + ")", x -> x.worth(i));
      bad("canBe(" + i + ")", x -> x.canBe(i));
      bad("rowAt(" + i + ", 0)", x -> x.rowAt(i, 0));
      bad("rows(" + i + ")", x -> x.rows(i));
      bad("best(" + i + ")", x -> x.best(i));
      bad("judged(" + i + ", 0)", x -> x.judged(i, 0));
      bad("judged(8, " + i + ")", x -> x.judged(8, i));
      bad("share(0, " + i + ")", x -> x.share(0, i, true));
      bad("rests(" + i + ")", x -> x.rests(i));
      bad("byTurns(" + i + ")", x -> x.byTurns(i));
      bad("see(" + i + ", 0)", x -> x.see(i, 0, true));
      bad("see(0, " + i + ")", x -> x.see(0, i, true));
      bad("laws(" + i + ")", x -> x.laws(i));
      bad("taste(" + i + ", 0, 0)", x -> x.taste(i, 0, 0));
      bad("taste(0, " + i + ", 0)", x -> x.taste(0, i, 0));
      bad("taste(0, 0, " + i + ")", x -> x.taste(0, 0, i));
      bad("luck(0, " + i + ", 0, 5)", x -> x.luck(0, i, 0, 5, true));
      bad("luck(0, 6, " + i + ", 5)", x -> x.luck(0, 6, i, 5, true));
      bad("luck(0, 6, 0, " + i + ")", x -> x.luck(0, 6, 0, i, true));
      bad("evening(" + i + ")", x -> x.evening(i));
    }
  }

  @Sentence(of = "Terms 4", says = "LATE -3")
  static void late() {
    Due.is("LATE", StoneSoup.LATE, -3);
    Towns.unchanged("town() of a fault", Towns::brimful, StoneSoup::town, LATE);
    Towns.unchanged("ask(0) of one who gave", Towns::midway, x -> x.ask(0), LATE);
    Towns.unchanged("undo() of nothing", StoneSoup::new, StoneSoup::undo, LATE);
    Towns.unchanged("share(3, 5), not of it", Towns::midway, x -> x.share(3, 5, true), LATE);
    Towns.unchanged("share(3, 8), it can not be", Towns::midway, x -> x.share(3, 8, true), LATE);
    Towns.unchanged("evening(1) of nobody", StoneSoup::new, x -> x.evening(1), LATE);
    Towns.unchanged("again(0) of nothing kept", Towns::brimful, x -> x.again(0), LATE);
    Towns.unchanged("again(1) of nothing kept", Towns::brimful, x -> x.again(1), LATE);
  }

  @Sentence(of = "Terms 4", says = "FULL -4.")
  static void full() {
    Due.is("FULL", StoneSoup.FULL, -4);
    Towns.unchanged("write(0), a 57th", Towns::brimful, x -> x.write(0), FULL);
    Towns.unchanged("write(255), a 57th", Towns::brimful, x -> x.write(255), FULL);
    Towns.unchanged("see(0, 0), a seventh", Towns::brimful, x -> x.see(0, 0, true), FULL);
    Towns.unchanged("see(63, 6), a seventh", Towns::brimful, x -> x.see(63, 6, false), FULL);
  }

  @Sentence(of = "Terms 4", says = "Of several what is told first.")
  static void whatIsToldFirst() {
    Towns.unchanged("write: BAD ahead of FULL", Towns::brimful, x -> x.write(256), BAD);
    Towns.unchanged("write: BAD ahead of FULL", Towns::brimful, x -> x.write(-1), BAD);
    Towns.unchanged("see: BAD (things) ahead of FULL", Towns::brimful, x -> x.see(64, 0, true), BAD);
    Towns.unchanged("see: BAD (gave) ahead of FULL", Towns::brimful, x -> x.see(0, 7, true), BAD);
    Towns.unchanged("evening: BAD ahead of LATE", StoneSoup::new, x -> x.evening(0), BAD);
    Towns.unchanged("evening: BAD ahead of LATE", StoneSoup::new, x -> x.evening(61), BAD);
    Towns.unchanged("again: UNKNOWN ahead of LATE", StoneSoup::new, x -> x.again(2), UNKNOWN);
    Towns.unchanged("again: UNKNOWN ahead of LATE", StoneSoup::new, x -> x.again(-1), UNKNOWN);
    for (int person : new int[] {-1, 4}) {
      Towns.unchanged("person: UNKNOWN ahead of BAD", Towns::midway, x -> x.person(person, 7), UNKNOWN);
      Towns.unchanged("person: UNKNOWN ahead of BAD", Towns::midway, x -> x.person(person, -1), UNKNOWN);
      Towns.unchanged("would: UNKNOWN ahead of BAD", Towns::midway, x -> x.would(person, 16), UNKNOWN);
      Towns.unchanged("would: UNKNOWN ahead of BAD", Towns::midway, x -> x.would(person, -1), UNKNOWN);
      Towns.unchanged("share: UNKNOWN ahead of BAD", Towns::midway, x -> x.share(person, 16, true), UNKNOWN);
      Towns.unchanged("share: UNKNOWN ahead of BAD", Towns::midway, x -> x.share(person, -1, true), UNKNOWN);
      Towns.unchanged("share: UNKNOWN ahead of LATE", Towns::midway, x -> x.share(person, 0, true), UNKNOWN);
      Towns.unchanged("share: UNKNOWN ahead of LATE", Towns::midway, x -> x.share(person, 8, false), UNKNOWN);
      Towns.unchanged("luck: UNKNOWN ahead of BAD (n)", Towns::midway, x -> x.luck(person, 0, 0, 5, true), UNKNOWN);
      Towns.unchanged("luck: UNKNOWN ahead of BAD (row)", Towns::midway, x -> x.luck(person, 1, 10, 5, true), UNKNOWN);
      Towns.unchanged("luck: UNKNOWN ahead of BAD (x)", Towns::midway, x -> x.luck(person, 1, 0, 11, true), UNKNOWN);
    }
    Towns.unchanged("share: BAD ahead of LATE", Towns::midway, x -> x.share(0, 16, true), BAD);
    Towns.unchanged("share: BAD ahead of LATE", Towns::midway, x -> x.share(0, -2, true), BAD);
  }

  @Sentence(of = "Terms 4", says = "What is refused changes nothing.")
  static void whatIsRefusedChangesNothing() {
    // one after the other on one object; the tests of UNKNOWN, BAD, LATE and FULL ask each by itself
    Towns.Call all = x -> {
      int sum = x.write(-1) + x.write(256) + x.about(10) + x.person(4, 0) + x.person(0, 7) + x.ask(4) + x.ask(0);
      sum += x.would(4, 0) + x.would(0, 16) + x.worth(16) + x.canBe(3) + x.rowAt(16, 0) + x.rows(16) + x.best(2);
      sum += x.howSoon(4) + x.bars(4) + x.judged(0, 0) + x.judged(9, 0) + x.judged(1, 10) + x.judged(1, -1);
      sum += x.share(4, 5, true) + x.share(0, 16, true) + x.share(3, 5, true) + x.share(3, 8, true);
      sum += x.rests(2) + x.byTurns(2) + x.see(64, 0, true) + x.see(0, 7, true) + x.laws(3);
      sum += x.taste(7, 0, 0) + x.taste(0, 100, 0) + x.taste(0, 0, 2);
      sum += x.luck(4, 1, 0, 5, true) + x.luck(0, 7, 0, 5, true) + x.luck(0, 1, 10, 5, true) + x.luck(0, 1, 0, 11, true);
      return sum + x.evening(0) + x.evening(61) + x.keep(2) + x.again(2);
    };
    int unknown = 9 * UNKNOWN, bad = 28 * BAD, late = 3 * LATE;
    Towns.unchanged("all that is refused midway", Towns::midway, all, unknown + bad + late);
    StoneSoup x = Towns.brimful();
    Due.is("town()", x.town(), LATE);
    Due.is("write", x.write('S'), FULL);
    Due.is("see", x.see(0, 0, false), FULL);
    Due.is("again", x.again(0), LATE);
    for (int p = 0; p < 6; p++) Due.is("ask(" + p + ")", x.ask(p), LATE);
    Due.same("all that is refused when all is full", Towns.all(x), Towns.all(Towns.brimful()));
  }

  @Sentence(of = "Terms 4", says = "NONE is -9.")
  static void none() {
    Due.is("NONE", StoneSoup.NONE, -9);
    Due.is("fault()", Towns.told("S").fault(), -9);
    Due.is("person(0, 1)", Due.of(ONE).person(0, 1), -9);
    Due.is("person(0, 2)", Due.of(ONE).person(0, 2), -9);
    Due.is("person(0, 5)", Due.of(ONE).person(0, 5), -9);
    Due.is("ask(0)", Due.of(NEVER).ask(0), -9);
    Due.is("rowAt(0, 0)", Due.of(ONE).rowAt(0, 0), -9);
    Due.is("howSoon(0)", Due.of(NEVER).howSoon(0), -9);
    Due.is("judged(1, 0)", Due.of(ONE).judged(1, 0), -9);
    Due.is("rests(1)", Due.of("SPa--09-4Pa--0900").rests(1), -9);
    Due.is("byTurns(1)", Due.of(NEVER).byTurns(1), -9);
    Due.is("taste(0, 1, 1)", Due.of(ONE).taste(0, 1, 1), -9);
  }

  @Sentence(of = "Terms 4", says = "FRACTIONS are told above (upper = true), below, in least terms.")
  static void fractions() {
    Due.is("0 above", Due.of(NEVER).luck(0, 1, 0, 10, true), 0);
    Due.is("0 below", Due.of(NEVER).luck(0, 1, 0, 10, false), 1);
    Due.is("1 above", Due.of(ONE).luck(0, 1, 0, 10, true), 1);
    Due.is("1 below", Due.of(ONE).luck(0, 1, 0, 10, false), 1);
    Due.is("4 tenths above", Due.of(ONE).luck(0, 1, 0, 4, true), 2);
    Due.is("4 tenths below", Due.of(ONE).luck(0, 1, 0, 4, false), 5);
    Due.is("a whole share above", Due.of(ONE).share(0, 1, true), 8);
    Due.is("a whole share below", Due.of(ONE).share(0, 1, false), 1);
    Due.is("no share above", Due.of("SPa--00-0Pa--19-0").share(1, 3, true), 0);
    Due.is("no share below", Due.of("SPa--00-0Pa--19-0").share(1, 3, false), 1);
    Due.is("360 of 720 above", Due.of(LEAST).share(0, 63, true), 1);
    Due.is("360 of 720 below", Due.of(LEAST).share(0, 63, false), 2);
    Due.is("the least above", Due.of(CHAIN).luck(5, 6, 12345, 1, true), 1);
    Due.is("the least below", Due.of(CHAIN).luck(5, 6, 12345, 1, false), 1000000);
    Due.is("two parts in a million above", Due.of(CHAIN).luck(5, 6, 12345, 2, true), 1);
    Due.is("two parts in a million below", Due.of(CHAIN).luck(5, 6, 12345, 2, false), 15625);
  }

  @Sentence(of = "Terms 4", says = "A POT that is told: bits of PEOPLE that there are; else BAD.")
  static void potsThatAreTold() {
    for (int people = 0; people <= 6; people++) {
      String town = SIX.substring(0, 1 + 8 * people);
      int last = (1 << people) - 1;
      for (int pot : new int[] {0, last}) {
        Due.is("worth(" + pot + ") of " + people, Due.of(town).worth(pot), 4 * Integer.bitCount(pot));
        Due.is("rows(" + pot + ") of " + people, Due.of(town).rows(pot) > 0 ? 1 : 0, 1);
        Due.is("rowAt(" + pot + ", 0) of " + people, Due.of(town).rowAt(pot, 0), pot == 0 ? NONE : 0);
      }
      for (int pot : new int[] {last + 1, last + 2, 64, 128, -1, -1 - last, MIN, MIN + 1, MAX}) {
        Due.is("worth(" + pot + ") of " + people, Due.of(town).worth(pot), BAD);
        Due.is("rows(" + pot + ") of " + people, Due.of(town).rows(pot), BAD);
        Due.is("rowAt(" + pot + ", 0) of " + people, Due.of(town).rowAt(pot, 0), BAD);
        Due.is("would(0, " + pot + ") of " + people, Due.of(town).would(0, pot), people == 0 ? UNKNOWN : BAD);
        Due.is("share(0, " + pot + ") of " + people, Due.of(town).share(0, pot, true), people == 0 ? UNKNOWN : BAD);
      }
      if (people > 0) Due.is("would(0, " + last + ") of " + people, Due.of(town).would(0, last), 0);
      if (people > 0) Due.is("share(0, " + last + ") of " + people, Due.of(town).share(0, last, true), 4);
    }
  }

  public static void main(String[] args) throws Exception {
    Sentences.hold(TermsRefusalsBounds.class);
  }
}
