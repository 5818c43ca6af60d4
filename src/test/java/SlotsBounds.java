/** Promises 32 and 33: each sentence that names a boundary case. */
public final class SlotsBounds extends Bounds {
  @Sentence(of = "Promise 32", says = "They are kept: how many have given.")
  static void kept() {
    for (int slot = 0; slot <= 1; slot++) {
      StoneSoup x = Due.of(SIX);
      for (int gave = 0; gave <= 6; gave++) {
        Due.is("keep(" + slot + "), " + gave + " gave", x.keep(slot), gave);
        if (gave < 6) x.ask(5 - gave);
      }
      Due.is("acts: keeping is none", x.about(7), 6);
      for (int i = 0; i < 6; i++) x.undo();
      Due.is("what was kept last", x.again(slot), 6);
    }
    for (int slot = 0; slot <= 1; slot++) {
      Due.is("keep(" + slot + ") of nobody", new StoneSoup().keep(slot), 0);
      StoneSoup x = Towns.midway();
      String before = Due.state(x);
      Due.is("keep(" + slot + ")", x.keep(slot), 2);
      Due.same("nothing else is changed", Due.state(x), before);
      Due.is("the other one stays", x.again(1 - slot), slot == 1 ? 0 : 1);
    }
    // a full row of acts stays as it is
    StoneSoup y = Towns.brimful();
    y.keep(0);
    y.keep(1);
    Due.is("acts", y.about(7), 16);
    for (int i = 15; i >= 0; i--) Due.is("undo()", y.undo(), i);
    Due.is("nobody has given", y.about(1), 0);
    Due.is("again(0)", y.again(0), 6);
    Due.is("again(1)", y.again(1), 6);
  }

  @Sentence(of = "Promise 32", says = "UNKNOWN.")
  static void noSlotToKeep() {
    for (int slot : Towns.NO_SLOT) {
      Towns.unchanged("keep(" + slot + ")", Towns::midway, x -> x.keep(slot), UNKNOWN);
      Towns.unchanged("keep(" + slot + ") of a new one", StoneSoup::new, x -> x.keep(slot), UNKNOWN);
    }
  }

  /** The pot, the doubt and the lid, and no acts. */
  private static void goesOn(String name, StoneSoup x, int slot, int pot, int doubt, int lid) {
    Due.is("again(" + slot + "), " + name, x.again(slot), Integer.bitCount(pot));
    Due.is("the pot, " + name, x.about(1), pot);
    Due.is("doubt, " + name, x.about(4), doubt);
    Due.is("the lid, " + name, x.about(5), lid);
    Due.is("acts, " + name, x.about(7), 0);
    Due.is("undo(), " + name, x.undo(), LATE);
  }

  @Sentence(of = "Promise 33", says = "They are as they were kept: how many have given.")
  static void goneOnFrom() {
    StoneSoup fresh = new StoneSoup();
    fresh.keep(0);
    fresh.lid();
    goesOn("nobody", fresh, 0, 0, 0, 1);
    for (int doubt = 0; doubt <= 9; doubt++) {
      StoneSoup x = Towns.doubting(SIX, doubt);
      x.keep(0);
      x.lid();
      x.keep(1);
      x.ask(0);
      goesOn("doubt " + doubt + ", the lid on", x, 0, 0, doubt, 1);
      goesOn("doubt " + doubt + ", the lid off", x, 1, 0, Math.min(doubt + 1, 9), 0);
      goesOn("doubt " + doubt + ", the lid on, once more", x, 0, 0, doubt, 1);
    }
    StoneSoup all = Towns.given(SIX, 0, 1, 2, 3, 4, 5);
    all.keep(1);
    for (int i = 0; i < 6; i++) all.undo();
    goesOn("all gave", all, 1, 63, 0, 1);
    StoneSoup nobody = Due.of(SIX);
    nobody.keep(0);
    for (int p = 0; p < 6; p++) nobody.ask(p);
    for (int i = 0; i < 20; i++) nobody.lid();
    goesOn("nobody, behind more acts than a row holds", nobody, 0, 0, 0, 1);
    // acts are counted from none again, 16 at most
    for (int i = 1; i <= 18; i++) {
      nobody.lid();
      Due.is("acts", nobody.about(7), Math.min(i, 16));
    }
    StoneSoup x = Towns.midway();
    int fit = x.laws(0);
    goesOn("one gave, doubt 2, the lid off", x, 1, 4, 2, 0);
    Due.is("seen stays", x.about(8), 2);
    Due.is("laws(0)", x.laws(0), fit);
    Due.is("the text stays", x.about(9), 17);
    Due.is("the seed stays", x.seed(77L), 77);
    Due.is("the town stays", x.about(0), 4);
    // what is kept stays kept, whatever comes of it when one has gone on
    Due.is("ask(0)", x.ask(0), 2);
    goesOn("once more", x, 1, 4, 2, 0);
  }

  @Sentence(of = "Promise 33", says = "UNKNOWN; LATE: none were kept.")
  static void nothingToGoOnFrom() {
    for (int slot : Towns.NO_SLOT) {
      Towns.unchanged("again(" + slot + ")", Towns::midway, x -> x.again(slot), UNKNOWN);
      Towns.unchanged("again(" + slot + ") of a new one", StoneSoup::new, x -> x.again(slot), UNKNOWN);
    }
    for (int slot = 0; slot <= 1; slot++) {
      int told = slot;
      Towns.unchanged("again(" + slot + ") of a new one", StoneSoup::new, x -> x.again(told), LATE);
      Towns.unchanged("again(" + slot + ") of a full one", Towns::brimful, x -> x.again(told), LATE);
      Towns.unchanged("again(" + slot + "), the other one was kept", () -> { StoneSoup x = Towns.given(SIX, 3); x.keep(1 - told); return x; }, x -> x.again(told), LATE);
      Towns.unchanged("again(" + slot + "), the town is made anew", () -> { StoneSoup x = Towns.midway(); x.town(); return x; }, x -> x.again(told), LATE);
      StoneSoup x = Towns.midway();
      x.write('!');
      Due.is("town() of a fault", x.town(), LATE);
      Due.is("again(" + slot + ") behind it", x.again(slot), slot);
    }
  }

  public static void main(String[] args) throws Exception {
    Sentences.hold(SlotsBounds.class);
  }
}
