import java.util.ArrayList;
import java.util.HashSet;
import java.util.List;
import java.util.Map;
import java.util.Set;
import java.util.TreeMap;
import java.util.TreeSet;

/** Forms with short ranges against all their rows, one by one; forms with long ones against plain sums. */
public final class BruteTest {
  private static final int NOTHING = -100000;
  private static final String[] KINDS = {"line", "square", "cube", "fourth", "three"};
  private static final Check check = new Check("BruteTest");

  /** A term: factor, kind, low, high. */
  private static long value(int[] term, int x) {
    long y = x;
    long[] powers = {y, y * y, y * y * y, y * y * y * y, y * (y + 1) / 2};
    return term[0] * powers[term[1]];
  }

  private static String text(int[][] terms) {
    StringBuilder text = new StringBuilder();
    for (int[] t : terms) {
      text.append(text.length() == 0 ? "" : "+").append(t[0]).append(KINDS[t[1]]);
      text.append(" from ").append(t[2]).append(" to ").append(t[3]);
    }
    return text.toString();
  }

  private static int[] draw(Dice dice, int width) {
    for (int tries = 0; tries < 100000; tries++) {
      int kind = dice.below(5);
      int most = new int[] {3000, 54, 14, 7, 76}[kind];
      int reach = dice.oneIn(2) ? Math.min(most, 12) : most;
      int low = dice.oneIn(3) ? 0 : dice.from(-reach, reach);
      int[] term = {dice.oneIn(2) ? 1 : dice.from(1, dice.oneIn(4) ? 99 : 9), kind, low, low + dice.below(width)};
      if (Math.abs(value(term, term[2])) <= 3000 && Math.abs(value(term, term[3])) <= 3000) {
        return term;
      }
    }
    throw new IllegalStateException();
  }

  private static int[][] drawForm(Dice dice) {
    int count = dice.from(1, 5);
    int width = new int[] {300, 30, 12, 7, 5}[count - 1];
    int[][] terms = new int[count][];
    for (int t = 0; t < count; t++) {
      terms[t] = t > 0 && dice.oneIn(2) ? terms[dice.below(t)].clone() : draw(dice, width);
    }
    return terms;
  }

  /** All rows by their sums, each list in the order of rows. */
  private static void rows(int[][] terms, int t, int[] row, int sum, TreeMap<Integer, List<int[]>> ways) {
    if (t == terms.length) {
      ways.computeIfAbsent(sum, n -> new ArrayList<>()).add(row.clone());
      return;
    }
    for (int x = terms[t][2]; x <= terms[t][3]; x++) {
      row[t] = x;
      rows(terms, t + 1, row, sum + (int) value(terms[t], x), ways);
    }
  }

  private static TreeMap<Integer, List<int[]>> allWays(int[][] terms) {
    TreeMap<Integer, List<int[]>> ways = new TreeMap<>();
    rows(terms, 0, new int[terms.length], 0, ways);
    return ways;
  }

  private static boolean isUnlike(int[][] terms, int[] row) {
    for (int t = 0; t < row.length; t++) {
      for (int s = 0; s < t; s++) {
        if (java.util.Arrays.equals(terms[s], terms[t]) && row[s] > row[t]) {
          return false;
        }
      }
    }
    return true;
  }

  private static int unlike(int[][] terms, List<int[]> ways) {
    int count = 0;
    for (int[] row : ways) {
      count += isUnlike(terms, row) ? 1 : 0;
    }
    return count;
  }

  private static void tryForm(ToldPowers x, int slot, int[][] terms, Dice dice) {
    TreeMap<Integer, List<int[]>> ways = allWays(terms);
    String name = text(terms) + ": ";
    check.due(name + "form", Check.form(x, slot, text(terms)), terms.length);
    Map<Integer, Integer> unlike = new TreeMap<>();
    for (Map.Entry<Integer, List<int[]>> entry : ways.entrySet()) {
      unlike.put(entry.getKey(), unlike(terms, entry.getValue()));
    }
    int near = ways.firstKey() + dice.below(ways.lastKey() - ways.firstKey() + 1);
    for (int n = -3000; n <= 3000; n++) {
      List<int[]> rows = ways.getOrDefault(n, List.of());
      check.due(name + "ways of " + n, x.ways(slot, n), rows.size());
      check.due(name + "unlike of " + n, x.unlike(slot, n), unlike.getOrDefault(n, 0));
      if (!rows.isEmpty() && (Math.abs(n - near) < 20 || dice.oneIn(100))) {
        tryWays(x, slot, n, rows, name, dice);
      }
    }
    tryMissed(x, slot, ways, name, dice);
    tryMany(x, slot, unlike, name, dice);
    trySums(x, slot, terms, ways, name, dice);
    tryGreed(x, slot, terms, name, dice);
    tryClasses(x, slot, terms, ways, name, dice);
    tryRank(x, slot, ways, name, dice);
    tryWrite(x, slot, ways, name, dice);
  }

  private static void tryWays(ToldPowers x, int slot, int n, List<int[]> rows, String name, Dice dice) {
    int step = rows.size() / 20 + 1;
    for (int k = dice.below(step); k < rows.size(); k += step) {
      int[] row = rows.get(k);
      int[] told = {99, -5, 7, 0, 1};
      for (int i = 0; i < row.length; i++) {
        check.due(name + "way(" + n + ", " + k + ", " + i + ")", x.way(slot, n, k, i), row[i]);
        told[i] = row[i];
      }
      check.due(name + "way of no term", x.way(slot, n, k, row.length), NOTHING);
      check.due(name + "number(" + n + ", way " + k + ")", x.number(slot, n, told[0], told[1], told[2], told[3], told[4]), k);
      check.due(name + "number of another n", x.number(slot, n == 0 ? 1 : n - 1, told[0], told[1], told[2], told[3], told[4]), -1);
    }
    check.due(name + "way behind the last", x.way(slot, n, rows.size(), 0), NOTHING);
  }

  private static int[] drawRange(Dice dice, int most) {
    int from = dice.from(-3000, 3000);
    int to = Math.min(3000, from + dice.below(most));
    return new int[] {from, to};
  }

  private static void tryMissed(ToldPowers x, int slot, Map<Integer, ?> ways, String name, Dice dice) {
    for (int tries = 0; tries < 6; tries++) {
      int[] range = tries == 0 ? new int[] {-3000, 3000} : drawRange(dice, tries < 3 ? 40 : 3000);
      int m = dice.from(1, 12);
      List<Integer> missed = new ArrayList<>();
      int longest = 0;
      int first = NOTHING;
      int length = 0;
      for (int n = range[0]; n <= range[1]; n++) {
        length = ways.containsKey(n) ? 0 : length + 1;
        if (length > 0) {
          missed.add(n);
        }
        if (length > longest) {
          longest = length;
          first = n - length + 1;
        }
      }
      String at = name + range[0] + " to " + range[1];
      check.due(at + " missed", x.missed(slot, range[0], range[1], -1), missed.size());
      check.due(at + " missed behind", x.missed(slot, range[0], range[1], missed.size()), NOTHING);
      for (int i = 0; i < missed.size(); i += dice.from(1, 500)) {
        check.due(at + " missed " + i, x.missed(slot, range[0], range[1], i), missed.get(i));
      }
      check.due(at + " gap 0", x.gap(slot, range[0], range[1], 0), longest);
      check.due(at + " gap 1", x.gap(slot, range[0], range[1], 1), first);
      int explained = 0;
      for (int n : missed) {
        explained += x.met(slot, m, Math.floorMod(n, m)) == 0 ? 1 : 0;
      }
      check.due(at + " explained", x.explained(slot, range[0], range[1], m), explained);
    }
    int full = 3000;
    while (full >= 0 && ways.containsKey(full)) {
      full--;
    }
    check.due(name + "full", x.full(slot), full == 3000 ? -1 : full + 1);
  }

  private static void tryMany(ToldPowers x, int slot, Map<Integer, Integer> unlike, String name, Dice dice) {
    for (int tries = 0; tries < 12; tries++) {
      int k = dice.from(1, tries < 6 ? 3 : 40);
      int from = dice.from(-3000, dice.oneIn(2) ? 0 : 3000);
      int more = NOTHING;
      int just = NOTHING;
      for (int n = 3000; n >= from; n--) {
        int count = unlike.getOrDefault(n, 0);
        more = count >= k ? n : more;
        just = count == k ? n : just;
      }
      check.due(name + "many(" + from + ", " + k + ")", x.many(slot, from, k, false), more);
      check.due(name + "many(" + from + ", " + k + ", exact)", x.many(slot, from, k, true), just);
    }
  }

  private static void trySums(ToldPowers x, int slot, int[][] terms, TreeMap<Integer, ?> ways, String name, Dice dice) {
    for (int tries = 0; tries < 40; tries++) {
      int n = dice.from(-3000, 3000);
      Integer below = ways.floorKey(n);
      Integer above = ways.ceilingKey(n);
      boolean lesser = above == null || below != null && n - below <= above - n;
      check.due(name + "nearest(" + n + ")", x.nearest(slot, n), lesser ? below : above);
    }
    List<Set<Integer>> firsts = new ArrayList<>();
    Set<Integer> sums = Set.of(0);
    for (int[] term : terms) {
      Set<Integer> next = new HashSet<>();
      for (int sum : sums) {
        for (int v = term[2]; v <= term[3]; v++) {
          next.add(sum + (int) value(term, v));
        }
      }
      firsts.add(next);
      sums = next;
    }
    for (int n = -3000; n <= 3000; n++) {
      int enough = -1;
      for (int t = terms.length; t >= 1; t--) {
        enough = firsts.get(t - 1).contains(n) ? t : enough;
      }
      check.due(name + "enough(" + n + ")", x.enough(slot, n), enough);
    }
  }

  private static void tryGreed(ToldPowers x, int slot, int[][] terms, String name, Dice dice) {
    for (int tries = 0; tries < 30; tries++) {
      int n = tries < 25 ? dice.from(-100, 100) * dice.from(1, 30) : dice.from(-3000, 3000);
      int left = n;
      for (int t = 0; t < terms.length; t++) {
        TreeMap<Long, Integer> firstX = new TreeMap<>();
        for (int v = terms[t][3]; v >= terms[t][2]; v--) {
          firstX.put(value(terms[t], v), v);
        }
        Long best = firstX.floorKey((long) left);
        best = best == null ? firstX.firstKey() : best;
        check.due(name + "greed(" + n + ", " + t + ")", x.greed(slot, n, t), firstX.get(best));
        left -= best;
      }
      check.due(name + "greed(" + n + ")", x.greed(slot, n, -1), left);
    }
  }

  private static void tryClasses(ToldPowers x, int slot, int[][] terms, Map<Integer, ?> ways, String name, Dice dice) {
    int most = new int[] {60, 60, 20, 8, 6}[terms.length - 1];
    for (int tries = 0; tries < 4; tries++) {
      int m = dice.from(1, most);
      long[] met = new long[m];
      int[][] first = new int[m][];
      classRows(terms, m, 0, new int[terms.length], 0, met, first);
      List<Integer> never = new ArrayList<>();
      for (int r = 0; r < m; r++) {
        check.due(name + "met(" + m + ", " + r + ")", x.met(slot, m, r), met[r]);
        for (int i = 0; i < terms.length; i++) {
          check.due(name + "meets(" + m + ", " + r + ", " + i + ")", x.meets(slot, m, r, i), first[r] == null ? -1 : first[r][i]);
        }
        if (met[r] == 0) {
          never.add(r);
        }
      }
      check.due(name + "met, no class", x.met(slot, m, m), -1);
      check.due(name + "never(" + m + ")", x.never(slot, m, -1), never.size());
      check.due(name + "never behind", x.never(slot, m, never.size()), -1);
      for (int i = 0; i < never.size(); i++) {
        check.due(name + "never(" + m + ", " + i + ")", x.never(slot, m, i), never.get(i));
      }
    }
    check.due(name + "bars", x.bars(slot), bars(terms));
  }

  private static void classRows(int[][] terms, int m, int t, int[] row, long sum, long[] met, int[][] first) {
    if (t == terms.length) {
      int r = (int) Math.floorMod(sum, (long) m);
      met[r]++;
      first[r] = first[r] == null ? row.clone() : first[r];
      return;
    }
    for (int v = 0; v < (terms[t][1] == 4 ? 2 * m : m); v++) {
      row[t] = v;
      classRows(terms, m, t + 1, row, sum + value(terms[t], v), met, first);
    }
  }

  private static int bars(int[][] terms) {
    for (int m = 1; m <= 60; m++) {
      Set<Integer> classes = Set.of(0);
      for (int[] term : terms) {
        Set<Integer> next = new TreeSet<>();
        for (int r : classes) {
          for (int v = 0; v < 2 * m; v++) {
            next.add((int) ((r + value(term, v)) % m));
          }
        }
        classes = next;
      }
      if (classes.size() < m) {
        return m;
      }
    }
    return -1;
  }

  private static void tryRank(ToldPowers x, int slot, Map<Integer, List<int[]>> ways, String name, Dice dice) {
    int[] range = drawRange(dice, 200);
    List<Integer> numbers = new ArrayList<>();
    for (int n = range[0]; n <= range[1]; n++) {
      numbers.add(n);
    }
    numbers.sort((a, b) -> Integer.compare(ways.getOrDefault(b, List.of()).size(), ways.getOrDefault(a, List.of()).size()));
    for (int i = 0; i < numbers.size(); i += dice.from(1, 9)) {
      check.due(name + "rank(" + range[0] + ", " + range[1] + ", " + i + ")", x.rank(slot, range[0], range[1], i), numbers.get(i));
    }
    check.due(name + "rank behind", x.rank(slot, range[0], range[1], numbers.size()), NOTHING);
  }

  private static void tryWrite(ToldPowers x, int slot, Map<Integer, List<int[]>> ways, String name, Dice dice) {
    int[] range = drawRange(dice, 60);
    if (dice.oneIn(2)) {
      range[0] = dice.from(-30, 30);
      range[1] = range[0] + dice.below(60);
    }
    StringBuilder text = new StringBuilder();
    for (int n = range[0]; n <= range[1]; n++) {
      text.append(n);
      List<int[]> rows = ways.getOrDefault(n, List.of());
      if (rows.isEmpty()) {
        text.append(" not");
      } else {
        String row = java.util.Arrays.toString(rows.get(0));
        text.append('=').append(row, 1, row.length() - 1);
      }
      text.append(';');
    }
    String due = text.toString().replace(", ", ",");
    check.due(name + "write(" + range[0] + ", " + range[1] + ")", x.write(slot, range[0], range[1]), due.length());
    check.text(name + "written", Check.shown(x), due);
    if (due.length() <= 800) {
      check.due(name + "what is written is proved", Check.prove(x, slot, due), range[1] - range[0] + 1);
    }
  }

  private static void tryCommon(ToldPowers x, int[][] one, int[][] two, Dice dice) {
    Set<Integer> both = new TreeSet<>(allWays(one).keySet());
    both.retainAll(allWays(two).keySet());
    int[] range = dice.oneIn(2) ? new int[] {-3000, 3000} : drawRange(dice, 3000);
    both.removeIf(n -> n < range[0] || n > range[1]);
    List<Integer> list = new ArrayList<>(both);
    check.due("common", x.common(0, 1, range[0], range[1], -1), list.size());
    check.due("common behind", x.common(1, 0, range[0], range[1], list.size()), NOTHING);
    for (int i = 0; i < list.size(); i++) {
      check.due("common " + i, x.common(0, 1, range[0], range[1], i), list.get(i));
    }
  }

  /** Ways to all sums from -15000 to 15000, place 15000 for 0. */
  private static long[] plainWays(int[][] terms) {
    long[] counts = new long[30001];
    counts[15000] = 1;
    for (int[] term : terms) {
      long[] next = new long[30001];
      for (int x = term[2]; x <= term[3]; x++) {
        int v = (int) value(term, x);
        for (int s = Math.max(0, v); s < Math.min(30001, 30001 + v); s++) {
          next[s] += counts[s - v];
        }
      }
      counts = next;
    }
    return counts;
  }

  /** Unlike ways of terms that are all alike: each x any number of times. */
  private static long[] plainUnlike(int[] term, int count) {
    long[][] counts = new long[count + 1][30001];
    counts[0][15000] = 1;
    for (int x = term[2]; x <= term[3]; x++) {
      int v = (int) value(term, x);
      for (int j = 1; j <= count; j++) {
        for (int s = Math.max(0, v); s < Math.min(30001, 30001 + v); s++) {
          counts[j][s] += counts[j - 1][s - v];
        }
      }
    }
    return counts[count];
  }

  private static void tryLong(ToldPowers x, int[][] terms, boolean alike) {
    String name = text(terms) + ": ";
    Check.form(x, 0, text(terms));
    long[] ways = plainWays(terms);
    long[] unlike = alike ? plainUnlike(terms[0], terms.length) : null;
    for (int n = -3000; n <= 3000; n++) {
      check.due(name + "ways of " + n, x.ways(0, n), ways[n + 15000]);
      if (alike) {
        check.due(name + "unlike of " + n, x.unlike(0, n), unlike[n + 15000]);
      }
    }
    for (int n = -2999; n <= 3000; n += 371) {
      tryNumbers(x, terms.length, n, ways[n + 15000], name);
    }
  }

  private static void tryNumbers(ToldPowers x, int count, int n, long ways, String name) {
    for (long k = 0; k < ways; k += ways / 7 + 1) {
      int[] row = new int[5];
      for (int i = 0; i < count; i++) {
        row[i] = x.way(0, n, k, i);
      }
      check.due(name + "number of way " + k + " of " + n, x.number(0, n, row[0], row[1], row[2], row[3], row[4]), k);
    }
  }

  public static void main(String[] args) {
    Dice dice = new Dice(7);
    for (int tries = 0; tries < 250; tries++) {
      ToldPowers x = new ToldPowers();
      int[][] one = drawForm(dice);
      int[][] two = drawForm(dice);
      tryForm(x, dice.below(4), drawForm(dice), dice);
      tryForm(x, 0, one, dice);
      tryForm(x, 1, two, dice);
      tryCommon(x, one, two, dice);
    }
    ToldPowers x = new ToldPowers();
    int[] line = {1, 0, -3000, 3000};
    tryLong(x, new int[][] {line, line, line, line, {1, 0, -3000, -3000}}, false);
    int[] shorter = {2, 0, -150, 170};
    tryLong(x, new int[][] {shorter, shorter, shorter, shorter, shorter}, true);
    int[] square = {1, 1, -54, 54};
    tryLong(x, new int[][] {square, square, square, square, square}, true);
    int[] cube = {1, 2, -14, 14};
    tryLong(x, new int[][] {cube, cube, cube, cube, cube}, true);
    int[] three = {1, 4, -77, 76};
    tryLong(x, new int[][] {three, three, three, three, three}, true);
    tryLong(x, new int[][] {{1, 0, 0, 3000}, cube, {99, 0, -30, 30}, square, {3, 0, 1, 1000}}, false);
    check.end();
  }
}
