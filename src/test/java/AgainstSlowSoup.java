/**
 * Runs of calls on the program and on SlowSoup: every answer must be alike. The runs are made by
 * numbers of their own, so that they are the same ones each time.
 */
public final class AgainstSlowSoup {
  private static final int RUNS = 800;
  /** With what tells the towns ahead of it, no object is used for more than 512. */
  private static final int CALLS = 360;
  private static final int[] STRANGE = {
    -1, -2, -9, 6, 7, 8, 9, 10, 11, 31, 32, 63, 64, 65, 99, 100, 255, 256, 999, 1000, 99999999,
    100000000, 1000000, 999999, Integer.MAX_VALUE, Integer.MIN_VALUE, -64, 1 << 30
  };

  private static long luck = 20261119L;

  private static int below(int bound) {
    luck = luck * 2862933555777941757L + 3037000493L;
    return (int) ((luck >>> 33) % bound);
  }

  private static boolean oneIn(int n) {
    return below(n) == 0;
  }

  /** Mostly a fair number, now and then a strange one. */
  private static int some(int bound) {
    return oneIn(25) ? STRANGE[below(STRANGE.length)] : below(bound);
  }

  private static char of(String letters) {
    return letters.charAt(below(letters.length()));
  }

  /** People of kinds that let towns differ: easy ones, choosy ones, any ones. */
  private static String town(int people) {
    StringBuilder text = new StringBuilder("S");
    int kind = below(4);
    for (int i = 0; i < people; i++) {
      text.append('P').append(of(kind == 0 ? "ab" : "abcdef"));
      text.append(kind == 1 ? '-' : of("-----abcdef"));
      text.append(kind == 1 ? '-' : of("-----abcdef"));
      text.append(kind == 3 ? of("0123456789") : of("00000123"));
      text.append(kind == 3 ? of("0123456789") : of("99999543210"));
      text.append(of("--------012345"));
      text.append(kind == 0 ? of("01") : of("0123456789"));
    }
    return text.toString();
  }

  private static String spoilt(String text) {
    StringBuilder s = new StringBuilder(text);
    int at = below(s.length());
    if (oneIn(3)) s.setLength(at);
    else if (oneIn(2)) s.setCharAt(at, (char) below(256));
    else s.insert(at, of("SPa-0569fg/:`x"));
    return s.length() > 56 ? s.substring(0, 56) : s.toString();
  }

  private static void tellBoth(StoneSoup x, SlowSoup y, String text) {
    Due.is("wipe()", x.wipe(), y.wipe());
    for (int i = 0; i < text.length(); i++) {
      Due.is("write", x.write(text.charAt(i)), y.write(text.charAt(i)));
      if (oneIn(9)) Due.is("fault() of " + text.substring(0, i + 1), x.fault(), y.fault());
    }
    Due.is("fault() of " + text, x.fault(), y.fault());
    Due.is("town() of " + text, x.town(), y.town());
  }

  private static int row(int n) {
    int told = 0;
    for (int i = 0; i < n && i < 8; i++) told = told * 10 + (oneIn(12) ? below(10) : below(6));
    return oneIn(30) ? STRANGE[below(STRANGE.length)] : told;
  }

  private static void call(StoneSoup x, SlowSoup y, String at) {
    int what = some(3);
    int p = some(6);
    int pot = oneIn(3) ? some(64) : some(1 << y.about(0));
    boolean b = oneIn(2);
    switch (below(40)) {
      case 0: if (oneIn(4)) { int letter = some(256); Due.is(at + "write(" + letter + ")", x.write(letter), y.write(letter)); } break;
      case 1: Due.is(at + "fault()", x.fault(), y.fault()); break;
      case 2: if (oneIn(6)) Due.is(at + "town()", x.town(), y.town()); break;
      case 3: case 4: case 5: { int w = some(10); Due.is(at + "about(" + w + ")", x.about(w), y.about(w)); break; }
      case 6: { int w = some(7); Due.is(at + "person(" + p + ", " + w + ")", x.person(p, w), y.person(p, w)); break; }
      case 7: case 8: case 9: Due.is(at + "ask(" + p + ")", x.ask(p), y.ask(p)); break;
      case 10: case 11: Due.is(at + "lid()", x.lid(), y.lid()); break;
      case 12: case 13: Due.is(at + "undo()", x.undo(), y.undo()); break;
      case 14: Due.is(at + "would(" + p + ", " + pot + ")", x.would(p, pot), y.would(p, pot)); break;
      case 15: Due.is(at + "worth(" + pot + ")", x.worth(pot), y.worth(pot)); break;
      case 16: Due.is(at + "canBe(" + what + ")", x.canBe(what), y.canBe(what)); break;
      case 17: case 18: { int i = some(6); Due.is(at + "rowAt(" + pot + ", " + i + ")", x.rowAt(pot, i), y.rowAt(pot, i)); break; }
      case 19: Due.is(at + "rows(" + pot + ")", x.rows(pot), y.rows(pot)); break;
      case 20: Due.is(at + "best(" + what + ")", x.best(what), y.best(what)); break;
      case 21: Due.is(at + "howSoon(" + p + ")", x.howSoon(p), y.howSoon(p)); break;
      case 22: Due.is(at + "bars(" + p + ")", x.bars(p), y.bars(p)); break;
      case 23: case 24: { int n = some(9); int r = row(n); Due.is(at + "judged(" + n + ", " + r + ")", x.judged(n, r), y.judged(n, r)); break; }
      case 25: case 26: Due.is(at + "share(" + p + ", " + pot + ", " + b + ")", x.share(p, pot, b), y.share(p, pot, b)); break;
      case 27: Due.is(at + "content()", x.content(), y.content()); break;
      case 28: Due.is(at + "rests(" + what + ")", x.rests(what), y.rests(what)); break;
      case 29: Due.is(at + "byTurns(" + what + ")", x.byTurns(what), y.byTurns(what)); break;
      case 30: { int t = some(64); int g = some(7); Due.is(at + "see(" + t + ", " + g + ", " + b + ")", x.see(t, g, b), y.see(t, g, b)); break; }
      case 31: if (oneIn(2)) Due.is(at + "unsee()", x.unsee(), y.unsee()); break;
      case 32: Due.is(at + "laws(" + what + ")", x.laws(what), y.laws(what)); break;
      case 33: if (oneIn(2)) Due.is(at + "toShow()", x.toShow(), y.toShow()); break;
      case 34: taste(x, y, at); break;
      case 35: { int n = some(7); int r = row(n); int t = some(11); Due.is(at + "luck(" + p + ", " + n + ", " + r + ", " + t + ", " + b + ")", x.luck(p, n, r, t, b), y.luck(p, n, r, t, b)); break; }
      case 36: if (oneIn(3)) { long v = luck * 31; Due.is(at + "seed(" + v + ")", x.seed(v), y.seed(v)); } break;
      case 37: { int m = some(61); Due.is(at + "evening(" + m + ")", x.evening(m), y.evening(m)); break; }
      case 38: { int s = some(2); Due.is(at + "keep(" + s + ")", x.keep(s), y.keep(s)); break; }
      default: if (oneIn(3)) { int s = some(2); Due.is(at + "again(" + s + ")", x.again(s), y.again(s)); } break;
    }
  }

  /** Half of the tastes are those of pots that there are. */
  private static void taste(StoneSoup x, SlowSoup y, String at) {
    int k = some(7);
    int w = some(100);
    int what = some(2);
    if (oneIn(2)) {
      int pot = below(1 << y.about(0));
      k = Integer.bitCount(pot);
      w = y.worth(pot);
    }
    Due.is(at + "taste(" + k + ", " + w + ", " + what + ")", x.taste(k, w, what), y.taste(k, w, what));
  }

  public static void main(String[] args) {
    for (int run = 0; run < RUNS; run++) {
      StoneSoup x = new StoneSoup();
      SlowSoup y = new SlowSoup();
      String text = town(oneIn(3) ? below(7) : 3 + below(4));
      if (oneIn(3)) tellBoth(x, y, spoilt(text));
      if (!oneIn(20)) tellBoth(x, y, text);
      for (int i = 0; i < CALLS; i++) call(x, y, "run " + run + ", " + text + ", call " + i + ": ");
    }
    Due.end();
  }
}
