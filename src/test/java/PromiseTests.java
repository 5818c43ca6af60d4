/** Each promise of the document in its turn: ordinary inputs, edges, refusals. */
public final class PromiseTests {
  private static final int UNKNOWN = -1, BAD = -2, LATE = -3, FULL = -4, NONE = -9;

  /** One free, one who needs a, one who hates a, one behind the second: pots 0 1 3 4 5 7 11 15. */
  private static final String FOUR = "SPa--09-2Pba-09-3Pc-a09-4Pd--1915";
  /** Three who give always, two of them the same thing. */
  private static final String FREE = "SPa--09-2Pa--09-0Pb--09-5";
  /** Six who give always. */
  private static final String SIX =
      "SPa--09-1Pb--09-1Pc--09-1Pd--09-1Pe--09-1Pf--09-1";

  private static final int MIN = Integer.MIN_VALUE, MAX = Integer.MAX_VALUE;

  /** The calls that must be refused leave all that can be told as it was. */
  private static void unchanged(String call, StoneSoup x, String before) {
    Due.same("state behind " + call, Due.state(x), before);
  }

  private static StoneSoup given(String town, int... people) {
    StoneSoup x = Due.of(town);
    int count = 0;
    for (int p : people) Due.is(town + " ask(" + p + ")", x.ask(p), ++count);
    return x;
  }

  private static void newObject() {
    StoneSoup x = new StoneSoup();
    Due.same("state of a new one", Due.state(x), "0 0 0 0 0 1 0 0 0 0 0");
    Due.is("new: person(0, 0)", x.person(0, 0), UNKNOWN);
    Due.is("new: ask(0)", x.ask(0), UNKNOWN);
    Due.is("new: undo()", x.undo(), LATE);
    Due.is("new: again(0)", x.again(0), LATE);
    Due.is("new: seed(5)", x.seed(5L), 0);
    Due.is("new: worth(1)", x.worth(1), BAD);
    Due.is("new: would(0, 0)", x.would(0, 0), UNKNOWN);
    Due.is("new: canBe(1)", x.canBe(1), 0);
    Due.is("new: howSoon(0)", x.howSoon(0), UNKNOWN);
    Due.is("new: bars(0)", x.bars(0), UNKNOWN);
    Due.is("new: judged(1, 0)", x.judged(1, 0), 0);
    Due.is("new: share(0, 0)", x.share(0, 0, true), UNKNOWN);
    Due.is("new: luck(0, ..)", x.luck(0, 1, 0, 1, true), UNKNOWN);
    Due.is("new: keep(1)", x.keep(1), 0);
    Due.is("new: again(1)", x.again(1), 0);
    Due.is("new: UNKNOWN", StoneSoup.UNKNOWN, UNKNOWN);
    Due.is("new: BAD", StoneSoup.BAD, BAD);
    Due.is("new: LATE", StoneSoup.LATE, LATE);
    Due.is("new: FULL", StoneSoup.FULL, FULL);
    Due.is("new: NONE", StoneSoup.NONE, NONE);
  }

  private static void write() {
    StoneSoup x = new StoneSoup();
    for (int bad : new int[] {-1, 256, MIN, MAX}) {
      String before = Due.state(x);
      Due.is("write(" + bad + ")", x.write(bad), BAD);
      unchanged("write(" + bad + ")", x, before);
    }
    Due.is("write(0)", x.write(0), 1);
    Due.is("write(255)", x.write(255), 2);
    for (int i = 3; i <= 56; i++) Due.is("write, " + i, x.write('S'), i);
    String before = Due.state(x);
    Due.is("write, a 57th", x.write('S'), FULL);
    Due.is("write(256) when it is full", x.write(256), BAD);
    unchanged("write to a full text", x, before);
    Due.is("about(9)", x.about(9), 56);
  }

  private static void wipe() {
    StoneSoup x = given(FREE, 0);
    Due.is("wipe()", x.wipe(), 25);
    Due.is("wipe() again", x.wipe(), 0);
    Due.is("about(9) behind wipe()", x.about(9), 0);
    Due.is("about(0) behind wipe()", x.about(0), 3);
    Due.is("about(1) behind wipe()", x.about(1), 1);
    Due.is("fault() behind wipe()", x.fault(), 0);
    Due.is("write behind wipe()", x.write('S'), 1);
    Due.is("fault() of S", x.fault(), NONE);
  }

  private static void faultOf(String text, int want) {
    StoneSoup x = new StoneSoup();
    Due.tell(x, text);
    Due.is("fault() of " + text, x.fault(), want);
    String before = Due.state(x);
    Due.is("town() of " + text, x.town(), want == NONE ? (text.length() - 1) / 8 : LATE);
    if (want != NONE) unchanged("town() of " + text, x, before);
  }

  private static void fault() {
    faultOf("", 0);
    faultOf("s", 0);
    faultOf("P", 0);
    faultOf("S", NONE);
    faultOf("SS", 1);
    faultOf("Sp", 1);
    String one = "Pa--09-5";
    for (int end = 1; end < 8; end++) faultOf("S" + one.substring(0, end), 1 + end);
    for (int end = 1; end < 8; end++) faultOf("S" + one + one.substring(0, end), 9 + end);
    String[] right = {"P", "abcdef", "abcdef-", "abcdef-", "0123456789", "0123456789", "012345-", "0123456789"};
    for (int place = 0; place < 8; place++) {
      for (int letter = 0; letter < 256; letter++) {
        String text = "S" + one.substring(0, place) + (char) letter + one.substring(place + 1);
        boolean fits = right[place].indexOf(letter) >= 0;
        faultOf(text, fits ? NONE : 1 + place);
        faultOf("S" + one + text.substring(1), fits ? NONE : 9 + place);
      }
    }
    faultOf("S" + one.repeat(6), NONE);
    faultOf("S" + one.repeat(6) + "P", 49);
    faultOf("S" + one.repeat(6) + "Pa--09-", 49);
    faultOf("S" + one.repeat(6) + "x", 49);
    faultOf("S" + one.repeat(5) + "x" + one, 41);
    faultOf("Sx" + one + "y", 1);
    faultOf("SPaaa9000", NONE);
    faultOf("SPa--09-5S", 9);
  }

  private static void town() {
    StoneSoup x = Due.of(SIX);
    Due.is("town() of six", x.about(0), 6);
    Due.is("about(9): the text stays", x.about(9), 49);
    Due.tell(x, FOUR);
    Due.is("about(0) ahead of town()", x.about(0), 6);
    x.lid();
    x.lid();
    x.lid();
    x.ask(0);
    Due.is("about(4) ahead of town()", x.about(4), 2);
    x.keep(0);
    x.keep(1);
    x.see(1, 1, true);
    x.seed(99L);
    Due.is("town() of four", x.town(), 4);
    Due.same("state behind town()", Due.state(x), "4 0 0 0 0 1 5 0 1 33 -9");
    Due.is("undo() behind town()", x.undo(), LATE);
    Due.is("again(0) behind town()", x.again(0), LATE);
    Due.is("again(1) behind town()", x.again(1), LATE);
    Due.is("seed behind town()", x.seed(0L), 99);
    x.ask(1);
    x.ask(0);
    x.keep(1);
    x.write('x');
    String before = Due.state(x);
    Due.is("town() of a fault", x.town(), LATE);
    unchanged("town() of a fault", x, before);
    Due.is("again(1) behind a refused town()", x.again(1), 1);
    Due.tell(x, "S");
    Due.is("town() of nobody", x.town(), 0);
    Due.is("about(0) of nobody", x.about(0), 0);
    Due.is("worth(1) of nobody", x.worth(1), BAD);
    Due.is("canBe(0) of nobody", x.canBe(0), 1);
    Due.tell(x, "SPa--09-5");
    x.town();
    x.ask(0);
    Due.is("town() again", x.town(), 1);
    Due.is("about(1) behind town() again", x.about(1), 0);
  }

  private static void about() {
    StoneSoup x = given(FREE, 1, 0);
    x.ask(1);
    x.lid();
    x.see(3, 2, false);
    Due.same("state", Due.state(x), "3 3 1 5 0 0 4 3 1 25 -9");
    x.lid();
    Due.is("about(5), the lid put on", x.about(5), 1);
    for (int bad : new int[] {-1, 10, MIN, MAX}) Due.is("about(" + bad + ")", x.about(bad), BAD);
    StoneSoup y = Due.of(FOUR);
    for (int i = 1; i <= 3; i++) {
      y.ask(1);
      Due.is("about(4) behind " + i, y.about(4), i);
    }
    Due.is("about(6): doubt is not asked", y.about(6), 5);
    Due.is("about(2) of c and a", given(FOUR, 2, 0).about(2), 5);
    Due.is("about(3) of c and a", given(FOUR, 2, 0).about(3), 12);
  }

  private static void person() {
    StoneSoup x = Due.of("SPfab3859Pa--00-0");
    int[] first = {5, 0, 1, 3, 8, 5, 9};
    int[] second = {0, NONE, NONE, 0, 0, NONE, 0};
    for (int what = 0; what < 7; what++) {
      Due.is("person(0, " + what + ")", x.person(0, what), first[what]);
      Due.is("person(1, " + what + ")", x.person(1, what), second[what]);
    }
    for (int bad : new int[] {-1, 7, MIN, MAX}) Due.is("person(0, " + bad + ")", x.person(0, bad), BAD);
    for (int bad : new int[] {-1, 2, 6, MIN, MAX}) {
      Due.is("person(" + bad + ", 0)", x.person(bad, 0), UNKNOWN);
      Due.is("person(" + bad + ", 7)", x.person(bad, 7), UNKNOWN);
    }
    String all = "abcdef";
    for (int i = 0; i < 6; i++) {
      StoneSoup y = Due.of("SP" + all.charAt(i) + all.charAt(5 - i) + all.charAt(i) + "12" + i + "7");
      Due.is("its thing " + i, y.person(0, 0), i);
      Due.is("its n " + i, y.person(0, 1), 5 - i);
      Due.is("its x " + i, y.person(0, 2), i);
      Due.is("its q " + i, y.person(0, 5), i);
    }
  }

  private static void ask() {
    StoneSoup x = Due.of(FOUR);
    Due.is("ask(3)", x.ask(3), NONE);
    Due.is("doubt is 1", x.about(4), 1);
    Due.is("ask(0)", x.ask(0), 1);
    Due.is("doubt is still 1", x.about(4), 1);
    String before = Due.state(x);
    Due.is("ask(0) again", x.ask(0), LATE);
    for (int bad : new int[] {-1, 4, MIN, MAX}) Due.is("ask(" + bad + ")", x.ask(bad), UNKNOWN);
    unchanged("refused askings", x, before);
    Due.is("ask(2) hates a", x.ask(2), NONE);
    Due.is("doubt is 2", x.about(4), 2);
    Due.is("ask(1) at doubt 2", x.ask(1), 2);
    Due.is("ask(2) again", x.ask(2), NONE);
    Due.is("doubt is 3", x.about(4), 3);
    Due.is("ask(3) at doubt 3", x.ask(3), NONE);
    Due.is("doubt stays 3", x.about(4), 3);
    Due.is("it is an act all the same", x.about(7), 6);
    Due.is("the pot stays", x.about(1), 3);
    Due.is("one who has given, at doubt 3", x.ask(0), LATE);
    Due.is("the lid is lifted", x.lid(), 2);
    Due.is("ask(3) at doubt 2", x.ask(3), 3);
  }

  private static void lid() {
    StoneSoup x = Due.of(FREE);
    for (int i = 1; i <= 11; i++) {
      Due.is("lifted, nobody has given", x.lid(), Math.min(i, 9));
      Due.is("it is off", x.about(5), 0);
      Due.is("put on", x.lid(), Math.min(i, 9));
      Due.is("it is on", x.about(5), 1);
    }
    Due.is("ask(0) at doubt 9", x.ask(0), NONE);
    StoneSoup y = given(FREE, 0);
    Due.is("lifted, one has given, doubt 0", y.lid(), 0);
    StoneSoup z = Due.of(FOUR);
    z.ask(3);
    z.ask(3);
    z.ask(0);
    Due.is("lifted at doubt 2", z.lid(), 1);
    Due.is("put on at doubt 1", z.lid(), 1);
    Due.is("lifted at doubt 1", z.lid(), 0);
    Due.is("put on at doubt 0", z.lid(), 0);
    Due.is("lifted at doubt 0", z.lid(), 0);
    Due.is("acts", z.about(7), 8);
  }

  private static void undo() {
    StoneSoup x = Due.of(FOUR);
    Due.is("undo() of nothing", x.undo(), LATE);
    String[] states = new String[20];
    int[] asked = {3, 0, -1, 1, -1, 2, -1, 3, -1, 2, 2, -1, -1, -1, 2, -1};
    for (int i = 0; i < asked.length; i++) {
      states[i] = Due.state(x);
      if (asked[i] < 0) x.lid();
      else x.ask(asked[i]);
      Due.is("acts", x.about(7), i + 1);
    }
    for (int i = asked.length - 1; i >= 0; i--) {
      Due.is("undo() to " + i, x.undo(), i);
      Due.same("state behind undo() to " + i, Due.state(x), states[i]);
    }
    String before = Due.state(x);
    Due.is("undo() of no more", x.undo(), LATE);
    unchanged("undo() of no more", x, before);
    for (int acts : new int[] {15, 16, 17, 18, 40}) undoBehind(acts);
  }

  /** The seventeenth act makes the first one forgotten. */
  private static void undoBehind(int acts) {
    StoneSoup x = given(FREE, 2);
    int left = Math.min(acts + 1, 16);
    for (int i = 0; i < acts; i++) x.lid();
    Due.is("acts behind " + acts, x.about(7), left);
    for (int i = left - 1; i >= 0; i--) Due.is("undo() behind " + acts, x.undo(), i);
    Due.is("undo() of what is forgotten", x.undo(), LATE);
    Due.is("the pot behind " + acts, x.about(1), acts + 1 > 16 ? 4 : 0);
    Due.is("the lid behind " + acts, x.about(5), acts + 1 > 16 && (acts - 16) % 2 == 1 ? 0 : 1);
    x.ask(0);
    Due.is("acts behind an act behind them all", x.about(7), 1);
    Due.is("undo() of it", x.undo(), 0);
    Due.is("the pot behind undo() of it", x.about(1), acts + 1 > 16 ? 4 : 0);
  }

  private static void would() {
    StoneSoup x = Due.of(FOUR);
    int[][] want = {
      {1, 0, 1, 0}, {0, 1, 0, 0}, {1, 0, 1, 1}, {0, 0, 0, 1},
      {1, 0, 0, 0}, {0, 1, 0, 0}, {1, 0, 0, 1}, {0, 0, 0, 1},
      {1, 0, 1, 0}, {0, 1, 0, 0}, {1, 0, 1, 0}, {0, 0, 0, 0},
      {1, 0, 0, 0}, {0, 1, 0, 0}, {1, 0, 0, 0}, {0, 0, 0, 0}
    };
    for (int pot = 0; pot < 16; pot++)
      for (int p = 0; p < 4; p++)
        Due.is("would(" + p + ", " + pot + ")", x.would(p, pot), want[pot][p]);
    for (int bad : new int[] {-1, 16, 31, 64, MIN, MAX}) {
      Due.is("would(0, " + bad + ")", x.would(0, bad), BAD);
      Due.is("would(" + (bad == -1 ? 4 : bad) + ", -1)", x.would(bad == -1 ? 4 : bad, -1), UNKNOWN);
    }
    StoneSoup bounds = Due.of("SPa--23-0Pb--09-0Pb--09-0Pb--09-0Pb--09-0");
    Due.is("one gave, l is 2", bounds.would(0, 2), 0);
    Due.is("two gave, l is 2", bounds.would(0, 6), 1);
    Due.is("three gave, m is 3", bounds.would(0, 14), 1);
    Due.is("four gave, m is 3", bounds.would(0, 30), 0);
    StoneSoup odd = Due.of("SPaa-09-0Pb-b09-0Pc--0920Pd--0950Pecc09-0");
    Due.is("it needs its own thing", odd.would(0, 0), 0);
    Due.is("it needs its own thing, of another one", Due.of("SPaa-09-0Pa--09-0").would(0, 2), 1);
    Due.is("it hates its own thing", odd.would(1, 0), 1);
    Due.is("it waits for itself", odd.would(2, 11), 0);
    Due.is("it waits for one who is not there", odd.would(3, 7), 0);
    Due.is("it needs and hates one thing", odd.would(4, 4), 0);
    Due.is("it needs and hates one thing that is not there", odd.would(4, 3), 0);
    Due.is("l is more than m", Due.of("SPa--10-0Pb--09-0").would(0, 2), 0);
  }

  private static void worth() {
    StoneSoup x = Due.of(FREE);
    int[] want = {0, 5, 3, 5, 8, 13, 11, 13};
    for (int pot = 0; pot < 8; pot++) Due.is("worth(" + pot + ")", x.worth(pot), want[pot]);
    for (int bad : new int[] {-1, 8, 63, MIN, MAX}) Due.is("worth(" + bad + ")", x.worth(bad), BAD);
    Due.is("worth of six", Due.of(SIX.replace("-1", "-9")).worth(63), 72);
    Due.is("worth of 64", Due.of(SIX).worth(64), BAD);
    Due.is("worth of what can not be", Due.of(FOUR).worth(8), 8);
  }

  private static void canBe() {
    StoneSoup x = Due.of(FOUR);
    Due.is("canBe(0)", x.canBe(0), 8);
    Due.is("canBe(1)", x.canBe(1), 15);
    Due.is("canBe(2)", x.canBe(2), 0);
    for (int i = 0; i < 5; i++) x.ask(3);
    Due.is("canBe(0) at doubt 3", x.canBe(0), 8);
    StoneSoup y = given(FOUR, 2);
    Due.is("canBe(0) behind 2", y.canBe(0), 4);
    Due.is("canBe(1) behind 2", y.canBe(1), 15);
    Due.is("canBe(2) behind 2", y.canBe(2), 4);
    StoneSoup z = given(FOUR, 0, 1, 3);
    Due.is("canBe(0) at the end", z.canBe(0), 1);
    Due.is("canBe(1) at the end", z.canBe(1), 11);
    Due.is("canBe(2) at the end", z.canBe(2), 11);
    for (int bad : new int[] {-1, 3, MIN, MAX}) Due.is("canBe(" + bad + ")", x.canBe(bad), BAD);
    Due.is("canBe(0) of six", Due.of(SIX).canBe(0), 64);
  }

  private static void rowTo(StoneSoup x, int pot, int... want) {
    for (int i = 0; i < want.length; i++) Due.is("rowAt(" + pot + ", " + i + ")", x.rowAt(pot, i), want[i]);
    for (int i : new int[] {-1, want.length, 6, MIN, MAX})
      Due.is("rowAt(" + pot + ", " + i + ")", x.rowAt(pot, i), NONE);
  }

  private static void rowAt() {
    StoneSoup x = Due.of(FOUR);
    rowTo(x, 0);
    rowTo(x, 1, 0);
    rowTo(x, 5, 2, 0);
    rowTo(x, 11, 0, 1, 3);
    rowTo(x, 15, 2, 0, 1, 3);
    for (int pot : new int[] {2, 6, 8, 9, 10, 12, 13, 14}) rowTo(x, pot);
    for (int bad : new int[] {-1, 16, MIN, MAX}) Due.is("rowAt(" + bad + ", 0)", x.rowAt(bad, 0), BAD);
    StoneSoup y = given(FOUR, 2);
    rowTo(y, 15, 0, 1, 3);
    rowTo(y, 4);
    rowTo(y, 1);
    rowTo(Due.of(SIX), 63, 0, 1, 2, 3, 4, 5);
    // who could come first must come last here, and the first of the others first
    rowTo(Due.of("SPa--29-0Pb--09-0Pc--09-0Pd-b09-0"), 7, 1, 2, 0);
    rowTo(Due.of("SPa--09-0Pb-a09-0Pc-b09-0"), 7, 2, 1, 0);
    rowTo(Due.of("SPa--09-0Pb-a09-0Pc--09-0"), 7, 1, 0, 2);
    rowTo(given(SIX, 3), 62, 1, 2, 4, 5);
  }

  private static void rows() {
    StoneSoup x = Due.of(FREE);
    int[] want = {1, 1, 1, 2, 1, 2, 2, 6};
    for (int pot = 0; pot < 8; pot++) Due.is("rows(" + pot + ")", x.rows(pot), want[pot]);
    Due.is("rows(63) of six", Due.of(SIX).rows(63), 720);
    Due.is("rows(15) of four", Due.of(FOUR).rows(15), 1);
    Due.is("rows(2) of four", Due.of(FOUR).rows(2), 0);
    StoneSoup y = given(SIX, 5, 0);
    Due.is("rows(33) as it is", y.rows(33), 1);
    Due.is("rows(63) as it is", y.rows(63), 24);
    Due.is("rows(1) as it is", y.rows(1), 0);
    Due.is("rows(0) as it is", y.rows(0), 0);
    for (int bad : new int[] {-1, 64, MIN, MAX}) Due.is("rows(" + bad + ")", y.rows(bad), BAD);
    Due.is("rows(8) of three", x.rows(8), BAD);
  }

  private static void best() {
    StoneSoup x = Due.of(FOUR);
    Due.is("best(0)", x.best(0), 26);
    Due.is("best(1)", x.best(1), 15);
    StoneSoup y = given(FOUR, 0);
    Due.is("best(0) behind 0", y.best(0), 19);
    Due.is("best(1) behind 0", y.best(1), 11);
    StoneSoup like = Due.of("SPa--09-4Pa--09-0Pb--00-9");
    Due.is("best(0) of few", like.best(0), 19);
    Due.is("best(1) of like ones, the least", like.best(1), 5);
    Due.is("best(1) of like ones behind 1", given("SPa--09-4Pa--09-0Pb--00-9", 1).best(1), 3);
    Due.is("best(1) of two like ones", Due.of("SPa--00-4Pb--00-4").best(1), 1);
    for (int bad : new int[] {-1, 2, MIN, MAX}) Due.is("best(" + bad + ")", x.best(bad), BAD);
  }

  private static void howSoon() {
    StoneSoup x = Due.of(FOUR);
    int[] want = {1, 2, 1, 3};
    for (int p = 0; p < 4; p++) Due.is("howSoon(" + p + ")", x.howSoon(p), want[p]);
    StoneSoup y = given(FOUR, 0);
    int[] then = {0, 1, NONE, 2};
    for (int p = 0; p < 4; p++) Due.is("howSoon(" + p + ") behind 0", y.howSoon(p), then[p]);
    for (int bad : new int[] {-1, 4, MIN, MAX}) Due.is("howSoon(" + bad + ")", x.howSoon(bad), UNKNOWN);
    Due.is("howSoon of one who never gives", Due.of("SPa--09-0Pb--0950").howSoon(1), NONE);
    for (int i = 0; i < 4; i++) x.ask(3);
    Due.is("howSoon(3) at doubt 3", x.howSoon(3), 3);
  }

  private static void bars() {
    String town = "SPa-b09-9Pb-a09-9Pca-09-1Pdb-0909Pe--3934";
    StoneSoup x = Due.of(town);
    int[] want = {2, 5, 2, 0, 0};
    for (int p = 0; p < 5; p++) Due.is("bars(" + p + ")", x.bars(p), want[p]);
    StoneSoup y = given(town, 1);
    for (int p = 0; p < 5; p++) Due.is("bars(" + p + ") behind 1", y.bars(p), 0);
    for (int bad : new int[] {-1, 5, MIN, MAX}) Due.is("bars(" + bad + ")", x.bars(bad), UNKNOWN);
    StoneSoup free = Due.of(FREE);
    for (int p = 0; p < 3; p++) Due.is("free: bars(" + p + ")", free.bars(p), 0);
  }

  private static void judged() {
    StoneSoup x = Due.of(FOUR);
    Due.is("judged(1, 0)", x.judged(1, 0), NONE);
    Due.is("judged(2, 1)", x.judged(2, 1), NONE);
    Due.is("judged(3, 13)", x.judged(3, 13), NONE);
    Due.is("judged(2, 13)", x.judged(2, 13), 0);
    Due.is("judged(4, 2013)", x.judged(4, 2013), NONE);
    Due.is("judged(4, 2031)", x.judged(4, 2031), 2);
    Due.is("judged(5, 20133)", x.judged(5, 20133), 4);
    Due.is("judged(2, 0)", x.judged(2, 0), 1);
    Due.is("judged(1, 4)", x.judged(1, 4), 0);
    Due.is("judged(2, 9)", x.judged(2, 9), 1);
    Due.is("judged(8, 13)", x.judged(8, 13), 1);
    Due.is("judged(8, 20139999)", x.judged(8, 20139999), 4);
    Due.is("judged(8, 99999999)", x.judged(8, 99999999), 0);
    Due.is("judged(8, 100000000)", x.judged(8, 100000000), BAD);
    Due.is("judged(1, 10)", x.judged(1, 10), BAD);
    Due.is("judged(3, 1000)", x.judged(3, 1000), BAD);
    for (int bad : new int[] {-1, -10, MIN}) Due.is("judged(8, " + bad + ")", x.judged(8, bad), BAD);
    Due.is("judged(8, MAX)", x.judged(8, MAX), BAD);
    for (int bad : new int[] {-1, 0, 9, 10, MIN, MAX}) Due.is("judged(" + bad + ", 0)", x.judged(bad, 0), BAD);
    for (int i = 0; i < 5; i++) x.ask(3);
    String before = Due.state(x);
    Due.is("judged(3, 13) at doubt 3", x.judged(3, 13), NONE);
    unchanged("judged(3, 13)", x, before);
    Due.is("judged(2, 13) as it is", given(FOUR, 0).judged(2, 13), NONE);
    Due.is("judged(1, 0) of one who has given", given(FOUR, 0).judged(1, 0), 0);
  }

  private static void shareIs(StoneSoup x, int person, int pot, int above, int below) {
    Due.is("share(" + person + ", " + pot + ") above", x.share(person, pot, true), above);
    Due.is("share(" + person + ", " + pot + ") below", x.share(person, pot, false), below);
  }

  private static void share() {
    StoneSoup x = Due.of(FREE);
    shareIs(x, 0, 7, 7, 2);
    shareIs(x, 1, 7, 3, 2);
    shareIs(x, 2, 7, 8, 1);
    shareIs(x, 1, 2, 3, 1);
    shareIs(x, 0, 3, 7, 2);
    StoneSoup y = given(FOUR, 2, 0);
    shareIs(y, 1, 3, 6, 1);
    shareIs(y, 3, 15, 8, 1);
    StoneSoup three = Due.of("SPa--09-0Pb-a09-0Pa--09-0");
    shareIs(three, 0, 7, 3, 2);
    shareIs(three, 1, 7, 3, 1);
    StoneSoup thirds = Due.of("SPa--09-0Pa-b09-0Pb--09-0");
    shareIs(thirds, 0, 7, 1, 1);
    shareIs(thirds, 1, 7, 2, 1);
    StoneSoup nothing = Due.of("SPa--00-0Pa--19-0");
    shareIs(nothing, 1, 3, 0, 1);
    Due.is("share of one not of it", x.share(0, 6, true), LATE);
    Due.is("share of the empty one", x.share(0, 0, true), LATE);
    Due.is("share of what can not be", Due.of(FOUR).share(1, 2, false), LATE);
    Due.is("share of a bad pot", x.share(0, 8, true), BAD);
    Due.is("share of a bad pot", x.share(0, -1, true), BAD);
    Due.is("share of a bad pot", x.share(0, MAX, true), BAD);
    for (int bad : new int[] {-1, 3, MIN, MAX}) Due.is("share of " + bad, x.share(bad, -1, true), UNKNOWN);
    StoneSoup six = Due.of("SPa--09-0Pa--09-0Pa--09-0Pa--09-0Pa--09-0Pa--09-7");
    shareIs(six, 5, 63, 15, 2);
    shareIs(six, 0, 63, 1, 2);
  }

  private static void contentIs(String town, int want, int... people) {
    Due.is("content() of " + town, given(town, people).content(), want);
  }

  private static void content() {
    contentIs(FREE, 0);
    contentIs(FREE, 3, 0, 1, 2);
    contentIs(FREE, 5, 0, 2);
    contentIs("SPa--09-0Pb--09-7", 1, 1, 0);
    contentIs("SPa--09-7Pb--09-0", 3, 0, 1);
    contentIs("SPf--09-9Pa--09-7Pb--09-0", 6, 2, 1);
    contentIs("SPa--09-9Pa--09-5Pa--09-0", 6, 0, 1, 2);
    contentIs("SPa--09-0Pa--09-6Pa--09-8", 3, 0, 1, 2);
    contentIs("SPa--09-0Pa--09-8Pa--09-6", 1, 0, 1, 2);
    contentIs("SPa--09-8Pa--09-0Pa--09-6", 2, 0, 1, 2);
    contentIs("S", 0);
    contentIs("SPa--09-9", 1, 0);
    // 12 in two parts, then 13: what is over makes a part 1 more, and no more
    contentIs("SPa--09-7Pa--09-2", 2, 0, 1);
    contentIs("SPa--09-8Pa--09-2", 2, 0, 1);
    contentIs("SPa--09-7Pa--09-3", 3, 0, 1);
    contentIs(SIX, 63, 0, 1, 2, 3, 4, 5);
  }

  private static void restsAre(String town, int count, int first) {
    StoneSoup x = Due.of(town);
    Due.is("rests(0) of " + town, x.rests(0), count);
    Due.is("rests(1) of " + town, x.rests(1), first);
    for (int p = 0; p < x.about(0); p++) x.ask(p);
    Due.is("rests(0) of " + town + ", whatever the pot is", x.rests(0), count);
    Due.is("rests(1) of " + town + ", whatever the pot is", x.rests(1), first);
  }

  private static void rests() {
    restsAre("S", 1, 0);
    restsAre(FOUR, 2, 11);
    restsAre("SPa-b09-9Pb-a09-9Pca-09-1Pdb-0909Pe--3934", 1, 2);
    restsAre("SPa--09-9Pa--0900", 0, NONE);
    restsAre("SPa--09-3Pa--0900", 1, 3);
    restsAre("SPa--09-4Pa--0900", 0, NONE);
    restsAre("SPa--09-0Pa--0903", 2, 1);
    restsAre("SPa--09-0Pa--0902", 1, 3);
    // who gives nothing is no rest to one who does not sit there
    restsAre("SPa--09-0Pb--0950", 1, 1);
    StoneSoup x = new StoneSoup();
    for (int bad : new int[] {-1, 2, MIN, MAX}) Due.is("rests(" + bad + ")", x.rests(bad), BAD);
  }

  private static void turnsAre(String town, int wins, int whom, int... people) {
    StoneSoup x = given(town, people);
    Due.is("byTurns(0) of " + town, x.byTurns(0), wins);
    Due.is("byTurns(1) of " + town, x.byTurns(1), whom);
  }

  private static void byTurns() {
    turnsAre("S", 0, NONE);
    turnsAre(FREE, 1, 0);
    turnsAre(FREE, 0, NONE, 0);
    turnsAre(FREE, 1, 0, 1, 2);
    turnsAre(FREE, 0, NONE, 1, 2, 0);
    turnsAre(FOUR, 1, 0);
    turnsAre(FOUR, 1, 0, 2);
    turnsAre(FOUR, 0, NONE, 0);
    turnsAre(FOUR, 1, 3, 0, 1);
    turnsAre(FOUR, 0, NONE, 2, 0);
    turnsAre("SPa--00-1Pb--00-1Pc--00-1Pd--0901", 1, 1);
    turnsAre(SIX, 0, NONE);
    StoneSoup x = Due.of(FOUR);
    for (int i = 0; i < 4; i++) x.ask(3);
    Due.is("byTurns(0) at doubt 3", x.byTurns(0), 1);
    for (int bad : new int[] {-1, 2, MIN, MAX}) Due.is("byTurns(" + bad + ")", x.byTurns(bad), BAD);
  }

  private static void see() {
    StoneSoup x = new StoneSoup();
    for (int bad : new int[] {-1, 64, MIN, MAX}) Due.is("see(" + bad + ", 0)", x.see(bad, 0, true), BAD);
    for (int bad : new int[] {-1, 7, MIN, MAX}) Due.is("see(0, " + bad + ")", x.see(0, bad, true), BAD);
    Due.is("laws(0) behind what was refused", x.laws(0), 343);
    Due.is("about(8) behind what was refused", x.about(8), 0);
    Due.is("see(63, 6)", x.see(63, 6, true), 1);
    Due.is("see(0, 0)", x.see(0, 0, false), 2);
    for (int i = 3; i <= 6; i++) Due.is("see(63, 6), " + i, x.see(63, 6, true), i);
    int fit = x.laws(0);
    Due.is("a seventh", x.see(0, 0, true), FULL);
    Due.is("a seventh that is bad", x.see(64, 0, true), BAD);
    Due.is("laws(0) behind a seventh", x.laws(0), fit);
    Due.is("about(8) behind a seventh", x.about(8), 6);
  }

  private static void unsee() {
    StoneSoup x = Due.of(FOUR);
    Due.is("unsee() of nothing", x.unsee(), 0);
    x.see(1, 1, true);
    x.see(2, 1, false);
    Due.is("unsee()", x.unsee(), 2);
    Due.is("unsee() again", x.unsee(), 0);
    Due.is("laws(0) behind unsee()", x.laws(0), 343);
    Due.is("about(8) behind unsee()", x.about(8), 0);
    Due.is("about(0) behind unsee()", x.about(0), 4);
    for (int i = 1; i <= 6; i++) Due.is("see behind unsee()", x.see(1, 1, true), i);
  }

  private static void lawsAre(StoneSoup x, int fit, int needs, int hates) {
    Due.is("laws(0)", x.laws(0), fit);
    Due.is("laws(1)", x.laws(1), needs);
    Due.is("laws(2)", x.laws(2), hates);
  }

  private static void laws() {
    StoneSoup x = new StoneSoup();
    lawsAre(x, 343, 0, 0);
    for (int bad : new int[] {-1, 3, MIN, MAX}) Due.is("laws(" + bad + ")", x.laws(bad), BAD);
    x.see(0, 0, true);
    lawsAre(x, 7, 0, 0);
    x.see(62, 5, true);
    lawsAre(x, 2, 0, 0);
    x.see(1, 1, false);
    lawsAre(x, 1, 0, 1);
    x.see(2, 1, false);
    lawsAre(x, 0, NONE, NONE);
    for (int bad : new int[] {-1, 3}) Due.is("laws(" + bad + ") when none fits", x.laws(bad), BAD);
    StoneSoup y = new StoneSoup();
    y.see(8, 6, true);
    lawsAre(y, 84, 0, 0);
    y.see(55, 6, false);
    lawsAre(y, 77, 0, 0);
    y.see(0, 6, false);
    lawsAre(y, 42, 8, 0);
    StoneSoup none = new StoneSoup();
    none.see(0, 6, false);
    lawsAre(none, 294, 0, 0);
    none.see(0, 0, true);
    lawsAre(none, 0, NONE, NONE);
    StoneSoup high = new StoneSoup();
    high.see(0, 6, true);
    lawsAre(high, 49, 0, 0);
    high.see(0, 5, false);
    lawsAre(high, 7, 0, 0);
  }

  private static void toShow() {
    StoneSoup x = new StoneSoup();
    Due.is("toShow() of nothing seen", x.toShow(), 15);
    x.see(0, 0, true);
    Due.is("toShow() of seven", x.toShow(), 7);
    x.see(62, 5, true);
    Due.is("toShow() of two", x.toShow(), 1);
    x.see(1, 1, false);
    Due.is("toShow() of one", x.toShow(), 0);
    x.see(1, 1, true);
    Due.is("toShow() of none", x.toShow(), NONE);
    x.unsee();
    Due.is("toShow() behind unsee()", x.toShow(), 15);
    x.see(63, 6, true);
    Due.is("toShow() of those that hate nothing", x.toShow(), 15);
  }

  private static void taste() {
    StoneSoup x = given(FOUR, 0, 1);
    Due.is("taste(0, 0, 0)", x.taste(0, 0, 0), 1);
    Due.is("taste(0, 0, 1)", x.taste(0, 0, 1), 0);
    Due.is("taste(1, 7, 0)", x.taste(1, 7, 0), 1);
    Due.is("taste(1, 7, 1)", x.taste(1, 7, 1), 4);
    Due.is("taste(1, 8, 0), it can not be", x.taste(1, 8, 0), 0);
    Due.is("taste(1, 8, 1), it can not be", x.taste(1, 8, 1), NONE);
    Due.is("taste(4, 26, 1)", x.taste(4, 26, 1), 15);
    Due.is("taste(3, 26, 0), it is of four", x.taste(3, 26, 0), 0);
    StoneSoup free = Due.of("SPa--09-2Pb--09-2Pc--09-2Pa--09-5");
    Due.is("taste(2, 10, 0)", free.taste(2, 10, 0), 4);
    Due.is("taste(2, 10, 1)", free.taste(2, 10, 1), 0);
    Due.is("taste(2, 13, 0)", free.taste(2, 13, 0), 2);
    Due.is("taste(2, 13, 1)", free.taste(2, 13, 1), 8);
    Due.is("taste(6, 99, 0)", free.taste(6, 99, 0), 0);
    for (int bad : new int[] {-1, 7, MIN, MAX}) Due.is("taste(" + bad + ", ..)", x.taste(bad, 0, 0), BAD);
    for (int bad : new int[] {-1, 100, MIN, MAX}) Due.is("taste(0, " + bad + ", 0)", x.taste(0, bad, 0), BAD);
    for (int bad : new int[] {-1, 2, MIN, MAX}) Due.is("taste(0, 0, " + bad + ")", x.taste(0, 0, bad), BAD);
    Due.is("taste of six", Due.of(SIX).taste(3, 12, 0), 20);
  }

  private static void luckIs(StoneSoup x, int person, int n, int row, int tenths, int above, int below) {
    String call = "luck(" + person + ", " + n + ", " + row + ", " + tenths + ")";
    Due.is(call + " above", x.luck(person, n, row, tenths, true), above);
    Due.is(call + " below", x.luck(person, n, row, tenths, false), below);
  }

  private static void luck() {
    StoneSoup x = Due.of(FOUR);
    luckIs(x, 0, 1, 0, 3, 3, 10);
    luckIs(x, 0, 2, 0, 3, 51, 100);
    luckIs(x, 0, 1, 0, 0, 0, 1);
    luckIs(x, 0, 1, 0, 10, 1, 1);
    luckIs(x, 0, 1, 9, 5, 0, 1);
    luckIs(x, 0, 2, 90, 5, 1, 2);
    luckIs(x, 3, 3, 13, 5, 1, 8);
    luckIs(x, 3, 2, 13, 10, 0, 1);
    luckIs(x, 0, 2, 20, 5, 1, 2);
    luckIs(x, 2, 2, 2, 5, 1, 4);
    luckIs(x, 3, 6, 1313, 10, 1, 1);
    luckIs(x, 0, 6, 0, 1, 468559, 1000000);
    luckIs(x, 1, 6, 999999, 1, 0, 1);
    StoneSoup y = given(FOUR, 0);
    luckIs(y, 0, 1, 0, 1, 1, 1);
    luckIs(y, 1, 1, 1, 4, 2, 5);
    for (int i = 0; i < 5; i++) y.ask(2);
    String before = Due.state(y);
    luckIs(y, 3, 2, 13, 5, 1, 4);
    unchanged("luck(..)", y, before);
    for (int bad : new int[] {-1, 4, MIN, MAX}) Due.is("luck of " + bad, x.luck(bad, 0, 0, 0, true), UNKNOWN);
    for (int bad : new int[] {-1, 0, 7, MIN, MAX}) Due.is("luck, n " + bad, x.luck(0, bad, 0, 1, true), BAD);
    for (int bad : new int[] {-1, 11, MIN, MAX}) Due.is("luck, x " + bad, x.luck(0, 1, 0, bad, true), BAD);
    for (int bad : new int[] {-1, 10, MIN, MAX}) Due.is("luck, row " + bad, x.luck(0, 1, bad, 1, true), BAD);
    Due.is("luck, row 1000000", x.luck(0, 6, 1000000, 1, true), BAD);
  }

  private static void seed() {
    StoneSoup x = new StoneSoup();
    Due.is("seed(7)", x.seed(7L), 0);
    Due.is("seed(MIN)", x.seed(Long.MIN_VALUE), 7);
    Due.is("seed(MAX)", x.seed(Long.MAX_VALUE), Long.MIN_VALUE);
    Due.is("seed(-1)", x.seed(-1L), Long.MAX_VALUE);
    Due.is("seed(0)", x.seed(0L), -1);
  }

  private static int step(long seed, int people) {
    return (int) ((seed >>> 33) % people);
  }

  private static void evening() {
    long v = 12345L;
    int pot = 0;
    for (int m = 1; m <= 60; m++) {
      StoneSoup x = Due.of(SIX);
      v = v * 6364136223846793005L + 1442695040888963407L;
      pot |= 1 << step(v, 6);
      x.seed(12345L);
      String before = Due.state(x);
      Due.is("evening(" + m + ")", x.evening(m), pot);
      unchanged("evening(" + m + ")", x, before);
      Due.is("the seed behind evening(" + m + ")", x.seed(0L), v);
    }
    for (int bad : new int[] {-1, 0, 61, MIN, MAX}) {
      StoneSoup x = Due.of(SIX);
      x.seed(5L);
      Due.is("evening(" + bad + ")", x.evening(bad), BAD);
      Due.is("the seed behind evening(" + bad + ")", x.seed(0L), 5);
    }
    Due.is("evening(1) of one", Due.of("SPa--09-0").evening(1), 1);
    StoneSoup nobody = new StoneSoup();
    nobody.seed(5L);
    Due.is("evening(1) of nobody", nobody.evening(1), LATE);
    Due.is("evening(0) of nobody", nobody.evening(0), BAD);
    Due.is("the seed behind an evening of nobody", nobody.seed(0L), 5);
    eveningsOfDoubt();
  }

  /** Of one who gives and one who never does, the doubt tells when the evening is at its end. */
  private static void eveningsOfDoubt() {
    for (int doubt = 0; doubt <= 4; doubt++) {
      StoneSoup x = Due.of("SPa--09-0Pb--0950");
      for (int i = 0; i < doubt; i++) {
        x.lid();
        x.lid();
      }
      for (long seed = 0; seed < 40; seed++) {
        long v = seed;
        int grows = doubt;
        int pot = 0;
        for (int i = 0; i < 6; i++) {
          v = v * 6364136223846793005L + 1442695040888963407L;
          if (step(v, 2) == 0) pot |= grows < 3 ? 1 : 0;
          else if (grows < 3) grows++;
        }
        x.seed(seed);
        Due.is("evening(6) at doubt " + doubt + ", seed " + seed, x.evening(6), pot);
        Due.is("doubt behind the evening", x.about(4), doubt);
      }
      Due.is("evening from the pot as it is", given(SIX, 2, 4).evening(1) & 20, 20);
    }
  }

  private static void keep() {
    StoneSoup x = given(FREE, 2, 0);
    String before = Due.state(x);
    Due.is("keep(0)", x.keep(0), 2);
    Due.is("keep(1)", x.keep(1), 2);
    for (int bad : new int[] {-1, 2, MIN, MAX}) Due.is("keep(" + bad + ")", x.keep(bad), UNKNOWN);
    unchanged("keep", x, before);
    Due.is("undo() behind keep", x.undo(), 1);
    Due.is("keep(0), anew", x.keep(0), 1);
    Due.is("again(1)", x.again(1), 2);
    Due.is("again(0)", x.again(0), 1);
  }

  private static void again() {
    StoneSoup x = Due.of(FOUR);
    Due.is("again(0) of nothing", x.again(0), LATE);
    for (int bad : new int[] {-1, 2, MIN, MAX}) Due.is("again(" + bad + ")", x.again(bad), UNKNOWN);
    x.ask(3);
    x.ask(0);
    x.lid();
    x.lid();
    x.lid();
    x.ask(3);
    x.keep(1);
    String kept = Due.state(x);
    Due.is("again(0), another slot", x.again(0), LATE);
    unchanged("again(0), another slot", x, kept);
    x.lid();
    x.ask(1);
    x.see(1, 1, true);
    x.seed(8L);
    Due.is("again(1)", x.again(1), 1);
    Due.same("state behind again(1)", Due.state(x), "4 1 1 5 1 0 2 0 1 33 -9");
    Due.is("undo() behind again(1)", x.undo(), LATE);
    Due.is("the seed behind again(1)", x.seed(0L), 8);
    Due.is("again(1) once more", x.again(1), 1);
    StoneSoup doubts = Due.of(SIX);
    for (int i = 0; i < 24; i++) doubts.lid();
    doubts.keep(0);
    for (int i = 0; i < 16; i++) doubts.undo();
    Due.is("doubt behind undo()", doubts.about(4), 4);
    Due.is("again(0) of nobody who gave", doubts.again(0), 0);
    Due.is("doubt behind again(0)", doubts.about(4), 9);
  }

  public static void main(String[] args) {
    newObject();
    write();
    wipe();
    fault();
    town();
    about();
    person();
    ask();
    lid();
    undo();
    would();
    worth();
    canBe();
    rowAt();
    rows();
    best();
    howSoon();
    bars();
    judged();
    share();
    content();
    rests();
    byTurns();
    see();
    unsee();
    laws();
    toShow();
    taste();
    luck();
    seed();
    evening();
    keep();
    again();
    Due.end();
  }
}
