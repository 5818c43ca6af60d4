import java.math.BigInteger;
import java.util.ArrayDeque;
import java.util.ArrayList;
import java.util.Collections;
import java.util.Deque;
import java.util.HashMap;
import java.util.LinkedHashMap;
import java.util.List;
import java.util.Map;
import java.util.TreeMap;
import java.util.TreeSet;
import java.util.function.Predicate;
import java.util.regex.Matcher;
import java.util.regex.Pattern;

/**
 * The document once more, by other ways than the program's: every row of people is told out,
 * every law is tried, every chance is followed. Slow, and only here to be compared with.
 */
public final class SlowSoup {
  static final int UNKNOWN = -1, BAD = -2, LATE = -3, FULL = -4, NONE = -9;
  private static final Pattern TOWN =
      Pattern.compile("S(P[a-f][a-f-][a-f-][0-9][0-9][0-5-][0-9]){0,6}", Pattern.DOTALL);

  private static final class State {
    TreeSet<Integer> pot = new TreeSet<>();
    int doubt = 0;
    boolean lid = true;

    State copy() {
      State s = new State();
      s.pot = new TreeSet<>(pot);
      s.doubt = doubt;
      s.lid = lid;
      return s;
    }
  }

  private static final class Seen {
    int things, gave;
    boolean gives;
  }

  private String text = "";
  private List<String> people = new ArrayList<>();
  private State now = new State();
  private final Deque<State> acts = new ArrayDeque<>();
  private final Map<Integer, State> kept = new HashMap<>();
  private final List<Seen> seen = new ArrayList<>();
  private BigInteger seed = BigInteger.ZERO;

  // ---- the town

  int write(int letter) {
    if (letter < 0 || letter > 255) return BAD;
    if (text.length() == 56) return FULL;
    text += (char) letter;
    return text.length();
  }

  int wipe() {
    int was = text.length();
    text = "";
    return was;
  }

  int fault() {
    for (int end = 1; end <= text.length(); end++) {
      Matcher m = TOWN.matcher(text.substring(0, end));
      if (!m.matches() && !m.hitEnd()) return end - 1;
    }
    return TOWN.matcher(text).matches() ? NONE : text.length();
  }

  int town() {
    if (fault() != NONE) return LATE;
    people = new ArrayList<>();
    for (int at = 1; at < text.length(); at += 8) people.add(text.substring(at + 1, at + 8));
    now = new State();
    acts.clear();
    kept.clear();
    return people.size();
  }

  int about(int what) {
    switch (what) {
      case 0: return people.size();
      case 1: return bits(now.pot);
      case 2: return bits(things(now.pot));
      case 3: return worthOf(now.pot);
      case 4: return now.doubt;
      case 5: return now.lid ? 1 : 0;
      case 6: {
        TreeSet<Integer> all = new TreeSet<>();
        for (int p = 0; p < people.size(); p++) if (gives(p, now.pot)) all.add(p);
        return bits(all);
      }
      case 7: return acts.size();
      case 8: return seen.size();
      case 9: return text.length();
      default: return BAD;
    }
  }

  int person(int person, int what) {
    if (!known(person)) return UNKNOWN;
    if (what < 0 || what > 6) return BAD;
    char c = people.get(person).charAt(what);
    if (c == '-') return NONE;
    return what < 3 ? "abcdef".indexOf(c) : "0123456789".indexOf(c);
  }

  // ---- acts

  int ask(int person) {
    if (!known(person)) return UNKNOWN;
    if (now.pot.contains(person)) return LATE;
    acted();
    return asked(now, person) ? now.pot.size() : NONE;
  }

  int lid() {
    acted();
    if (now.lid) {
      if (now.pot.isEmpty()) now.doubt = now.doubt == 9 ? 9 : now.doubt + 1;
      else now.doubt = now.doubt == 0 ? 0 : now.doubt - 1;
    }
    now.lid = !now.lid;
    return now.doubt;
  }

  int undo() {
    if (acts.isEmpty()) return LATE;
    now = acts.removeLast();
    return acts.size();
  }

  private void acted() {
    if (acts.size() == 16) acts.removeFirst();
    acts.addLast(now.copy());
  }

  private boolean asked(State s, int person) {
    if (s.doubt >= 3) return false;
    if (gives(person, s.pot)) {
      s.pot.add(person);
      return true;
    }
    s.doubt++;
    return false;
  }

  // ---- pots

  int would(int person, int pot) {
    if (!known(person)) return UNKNOWN;
    if (!isPot(pot)) return BAD;
    return gives(person, set(pot)) ? 1 : 0;
  }

  int worth(int pot) {
    return isPot(pot) ? worthOf(set(pot)) : BAD;
  }

  int canBe(int what) {
    if (what < 0 || what > 2) return BAD;
    TreeSet<Integer> some = new TreeSet<>();
    TreeSet<Integer> all = new TreeSet<>();
    for (int p = 0; p < people.size(); p++) all.add(p);
    for (int pot : reached(now.pot)) {
      some.addAll(set(pot));
      all.retainAll(set(pot));
    }
    return what == 0 ? reached(now.pot).size() : bits(what == 1 ? some : all);
  }

  int rowAt(int pot, int i) {
    if (!isPot(pot)) return BAD;
    List<List<Integer>> rows = rowsTo(now.pot, pot);
    if (rows.isEmpty()) return NONE;
    rows.sort(
        (a, b) -> {
          for (int k = 0; k < a.size(); k++) {
            int c = Integer.compare(a.get(k), b.get(k));
            if (c != 0) return c;
          }
          return 0;
        });
    List<Integer> first = rows.get(0);
    return i < 0 || i >= first.size() ? NONE : first.get(i);
  }

  int rows(int pot) {
    return isPot(pot) ? rowsTo(now.pot, pot).size() : BAD;
  }

  int best(int what) {
    if (what < 0 || what > 1) return BAD;
    TreeMap<Integer, Integer> leastByWorth = new TreeMap<>();
    for (int pot : reached(now.pot)) leastByWorth.merge(worthOf(set(pot)), pot, Math::min);
    return what == 0 ? leastByWorth.lastKey() : leastByWorth.lastEntry().getValue();
  }

  int howSoon(int person) {
    if (!known(person)) return UNKNOWN;
    if (now.pot.contains(person)) return 0;
    int least = NONE;
    for (List<Integer> row : rowsFrom(now.pot)) {
      int at = row.indexOf(person) + 1;
      if (at > 0 && (least == NONE || at < least)) least = at;
    }
    return least;
  }

  int bars(int person) {
    if (!known(person)) return UNKNOWN;
    TreeSet<Integer> barred = new TreeSet<>();
    for (int other = 0; other < people.size(); other++) {
      boolean one = false, two = false, both = false;
      for (int pot : reached(now.pot)) {
        boolean hasOne = set(pot).contains(person), hasTwo = set(pot).contains(other);
        one |= hasOne;
        two |= hasTwo;
        both |= hasOne && hasTwo;
      }
      if (other != person && one && two && !both) barred.add(other);
    }
    return bits(barred);
  }

  int judged(int n, int row) {
    if (n < 1 || n > 8 || !isRow(row, n)) return BAD;
    TreeSet<Integer> pot = new TreeSet<>(now.pot);
    String told = figures(row, n);
    for (int i = 0; i < n; i++) {
      int person = told.charAt(i) - '0';
      if (!known(person) || !gives(person, pot)) return i;
      pot.add(person);
    }
    return NONE;
  }

  // ---- shares, rests, turns

  int share(int person, int pot, boolean upper) {
    if (!known(person)) return UNKNOWN;
    if (!isPot(pot)) return BAD;
    List<List<Integer>> rows = rowsTo(new TreeSet<>(), pot);
    if (!set(pot).contains(person) || rows.isEmpty()) return LATE;
    int sum = 0;
    for (List<Integer> row : rows) {
      TreeSet<Integer> ahead = new TreeSet<>(row.subList(0, row.indexOf(person)));
      TreeSet<Integer> then = new TreeSet<>(ahead);
      then.add(person);
      sum += worthOf(then) - worthOf(ahead);
    }
    return fraction(BigInteger.valueOf(sum), BigInteger.valueOf(rows.size()), upper);
  }

  int content() {
    List<Integer> givers = new ArrayList<>(now.pot);
    int[] parts = new int[givers.size()];
    for (int w = 0; w < worthOf(now.pot) && parts.length > 0; w++) parts[w % parts.length]++;
    TreeSet<Integer> content = new TreeSet<>();
    for (int i = 0; i < parts.length; i++) if (parts[i] >= value(givers.get(i))) content.add(givers.get(i));
    return bits(content);
  }

  int rests(int what) {
    if (what < 0 || what > 1) return BAD;
    List<Integer> rests = new ArrayList<>();
    for (int pot : reached(new TreeSet<>())) if (isRest(set(pot))) rests.add(pot);
    if (what == 0) return rests.size();
    return rests.isEmpty() ? NONE : Collections.min(rests);
  }

  private boolean isRest(TreeSet<Integer> pot) {
    for (int p : pot) if (worthOf(pot) < pot.size() * value(p)) return false;
    for (int p = 0; p < people.size(); p++) {
      if (!gives(p, pot)) continue;
      TreeSet<Integer> with = new TreeSet<>(pot);
      with.add(p);
      if (worthOf(with) > with.size() * value(p)) return false;
    }
    return true;
  }

  int byTurns(int what) {
    if (what < 0 || what > 1) return BAD;
    if (what == 0) return wins(now.pot) ? 1 : 0;
    for (int p = 0; p < people.size(); p++) {
      if (!gives(p, now.pot)) continue;
      TreeSet<Integer> with = new TreeSet<>(now.pot);
      with.add(p);
      if (!wins(with)) return p;
    }
    return NONE;
  }

  private boolean wins(TreeSet<Integer> pot) {
    for (int p = 0; p < people.size(); p++) {
      if (!gives(p, pot)) continue;
      TreeSet<Integer> with = new TreeSet<>(pot);
      with.add(p);
      if (!wins(with)) return true;
    }
    return false;
  }

  // ---- guessed

  int see(int things, int gave, boolean gives) {
    if (things < 0 || things > 63 || gave < 0 || gave > 6) return BAD;
    if (seen.size() == 6) return FULL;
    Seen s = new Seen();
    s.things = things;
    s.gave = gave;
    s.gives = gives;
    seen.add(s);
    return seen.size();
  }

  int unsee() {
    int was = seen.size();
    seen.clear();
    return was;
  }

  /** Each law as n, x, l; none is -1. */
  private List<int[]> fitting() {
    List<int[]> fit = new ArrayList<>();
    for (int n = -1; n < 6; n++)
      for (int x = -1; x < 6; x++)
        for (int l = 0; l <= 6; l++) {
          int[] law = {n, x, l};
          boolean fits = true;
          for (Seen s : seen) fits &= lets(law, s.things, s.gave) == s.gives;
          if (fits) fit.add(law);
        }
    return fit;
  }

  private static boolean lets(int[] law, int things, int gave) {
    return (law[0] < 0 || set(things).contains(law[0]))
        && (law[1] < 0 || !set(things).contains(law[1]))
        && gave >= law[2];
  }

  int laws(int what) {
    if (what < 0 || what > 2) return BAD;
    List<int[]> fit = fitting();
    if (what == 0) return fit.size();
    if (fit.isEmpty()) return NONE;
    int first = fit.get(0)[what - 1];
    for (int[] law : fit) if (law[what - 1] != first) return 0;
    return first < 0 ? 0 : 1 << first;
  }

  int toShow() {
    List<int[]> fit = fitting();
    int best = NONE, most = -1;
    for (int things = 0; things < 64 && !fit.isEmpty(); things++) {
      int yes = 0, no = 0;
      for (int[] law : fit) {
        if (lets(law, things, set(things).size())) yes++;
        else no++;
      }
      if (Math.min(yes, no) > most) {
        most = Math.min(yes, no);
        best = things;
      }
    }
    return best;
  }

  int taste(int k, int w, int what) {
    if (k < 0 || k > 6 || w < 0 || w > 99 || what < 0 || what > 1) return BAD;
    List<TreeSet<Integer>> like = new ArrayList<>();
    for (int pot : reached(new TreeSet<>()))
      if (set(pot).size() == k && worthOf(set(pot)) == w) like.add(set(pot));
    if (what == 0) return like.size();
    if (like.isEmpty()) return NONE;
    TreeSet<Integer> all = new TreeSet<>(like.get(0));
    for (TreeSet<Integer> pot : like) all.retainAll(pot);
    return bits(all);
  }

  int luck(int person, int n, int row, int x, boolean upper) {
    if (!known(person)) return UNKNOWN;
    if (n < 1 || n > 6 || !isRow(row, n) || x < 0 || x > 10) return BAD;
    BigInteger above = chance(now.pot, figures(row, n), x, person);
    return fraction(above, BigInteger.TEN.pow(n), upper);
  }

  /** In so many parts of as many as ten taken as often as the row is long. */
  private BigInteger chance(TreeSet<Integer> pot, String row, int x, int person) {
    if (row.isEmpty()) return pot.contains(person) ? BigInteger.ONE : BigInteger.ZERO;
    String rest = row.substring(1);
    int first = row.charAt(0) - '0';
    BigInteger without = chance(pot, rest, x, person);
    if (!known(first) || !gives(first, pot)) return without.multiply(BigInteger.TEN);
    TreeSet<Integer> with = new TreeSet<>(pot);
    with.add(first);
    return chance(with, rest, x, person)
        .multiply(BigInteger.valueOf(x))
        .add(without.multiply(BigInteger.valueOf(10 - x)));
  }

  long seed(long v) {
    long was = seed.longValue();
    seed = BigInteger.valueOf(v);
    return was;
  }

  int evening(int m) {
    if (m < 1 || m > 60) return BAD;
    if (people.isEmpty()) return LATE;
    State dream = now.copy();
    BigInteger wrap = BigInteger.ONE.shiftLeft(64);
    for (int i = 0; i < m; i++) {
      seed =
          seed.multiply(new BigInteger("6364136223846793005"))
              .add(new BigInteger("1442695040888963407"))
              .mod(wrap);
      int person = seed.shiftRight(33).mod(BigInteger.valueOf(people.size())).intValue();
      if (!dream.pot.contains(person)) asked(dream, person);
    }
    return bits(dream.pot);
  }

  // ---- slots

  int keep(int slot) {
    if (slot != 0 && slot != 1) return UNKNOWN;
    kept.put(slot, now.copy());
    return now.pot.size();
  }

  int again(int slot) {
    if (slot != 0 && slot != 1) return UNKNOWN;
    if (!kept.containsKey(slot)) return LATE;
    now = kept.get(slot).copy();
    acts.clear();
    return now.pot.size();
  }

  // ---- what all parts use

  private static int fraction(BigInteger above, BigInteger below, boolean upper) {
    BigInteger common = above.gcd(below);
    return (upper ? above : below).divide(common).intValueExact();
  }

  private boolean known(int person) {
    return person >= 0 && person < people.size();
  }

  private boolean isPot(int pot) {
    return pot >= 0 && pot < Math.pow(2, people.size());
  }

  private static boolean isRow(int row, int n) {
    return row >= 0 && String.valueOf(row).length() <= n;
  }

  private static String figures(int row, int n) {
    String told = String.valueOf(row);
    return "0".repeat(n - told.length()) + told;
  }

  private static TreeSet<Integer> set(int bits) {
    TreeSet<Integer> all = new TreeSet<>();
    for (int i = 0; i < 31; i++) if ((bits & 1 << i) != 0) all.add(i);
    return all;
  }

  private static int bits(Iterable<Integer> set) {
    int all = 0;
    for (int i : set) all += 1 << i;
    return all;
  }

  private int value(int person) {
    return people.get(person).charAt(6) - '0';
  }

  private TreeSet<Integer> things(TreeSet<Integer> pot) {
    TreeSet<Integer> all = new TreeSet<>();
    for (int p : pot) all.add(people.get(p).charAt(0) - 'a');
    return all;
  }

  private int worthOf(TreeSet<Integer> pot) {
    int all = 3 * things(pot).size();
    for (int p : pot) all += value(p);
    return all;
  }

  private boolean gives(int person, TreeSet<Integer> pot) {
    String told = people.get(person);
    Predicate<Character> inside = thing -> things(pot).contains(thing - 'a');
    if (pot.contains(person)) return false;
    if (told.charAt(1) != '-' && !inside.test(told.charAt(1))) return false;
    if (told.charAt(2) != '-' && inside.test(told.charAt(2))) return false;
    if (pot.size() < told.charAt(3) - '0') return false;
    if (pot.size() > told.charAt(4) - '0') return false;
    return told.charAt(5) == '-' || pot.contains(told.charAt(5) - '0');
  }

  private List<List<Integer>> rowsFrom(TreeSet<Integer> pot) {
    List<List<Integer>> all = new ArrayList<>();
    addRows(pot, new ArrayList<>(), all);
    return all;
  }

  private void addRows(TreeSet<Integer> pot, List<Integer> row, List<List<Integer>> all) {
    all.add(new ArrayList<>(row));
    for (int p = people.size() - 1; p >= 0; p--) {
      if (!gives(p, pot)) continue;
      TreeSet<Integer> with = new TreeSet<>(pot);
      with.add(p);
      row.add(p);
      addRows(with, row, all);
      row.remove(row.size() - 1);
    }
  }

  private Map<Integer, List<List<Integer>>> rowsByPot(TreeSet<Integer> from) {
    Map<Integer, List<List<Integer>>> all = new LinkedHashMap<>();
    for (List<Integer> row : rowsFrom(from)) {
      TreeSet<Integer> then = new TreeSet<>(from);
      then.addAll(row);
      all.computeIfAbsent(bits(then), k -> new ArrayList<>()).add(row);
    }
    return all;
  }

  private List<List<Integer>> rowsTo(TreeSet<Integer> from, int pot) {
    return rowsByPot(from).getOrDefault(pot, new ArrayList<>());
  }

  private TreeSet<Integer> reached(TreeSet<Integer> from) {
    return new TreeSet<>(rowsByPot(from).keySet());
  }
}
