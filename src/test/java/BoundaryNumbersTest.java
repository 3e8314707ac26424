/** Promises 9 to 23, 27, 33 and 34, what is asked of numbers: a test of its own for each sentence, told in its first line. */
public final class BoundaryNumbersTest {
  private static final int NOTHING = -100000;
  private static final int MIN = Integer.MIN_VALUE;
  private static final int MAX = Integer.MAX_VALUE;
  /** Slots that aren't there, and one without terms in all objects here. */
  private static final int[] NO_SLOTS = {-1, 4, 5, MIN, MAX, 3};
  private static final int[] NO_NUMBERS = {-3001, 3001, MIN, MAX};
  private static final int[][] NO_RANGES = {{-3001, 0}, {0, 3001}, {1, 0}, {3000, -3000}, {MIN, 0}, {0, MAX}, {MIN, MAX}, {MAX, MIN},
      {3001, 3001}, {-3001, -3001}, {3000, 3001}, {-3001, -3000}, {3001, 3000}, {-3000, -3001}, {0, MIN}, {MAX, 0}};
  private static final int[] NO_MODULI = {0, -1, 61, MIN, MAX};
  private static final Check check = new Check("BoundaryNumbersTest");
  private static final Doc doc = new Doc(check);

  public static void main(String[] args) {
    ways();
    unlike();
    way();
    number();
    missed();
    explained();
    full();
    met();
    meets();
    never();
    bars();
    many();
    greed();
    nearest();
    enough();
    common();
    gap();
    rank();
    doc.all("ways", "unlike", "way", "number", "missed", "explained", "full", "met", "meets", "never", "bars", "many", "greed", "nearest",
        "enough", "common", "gap", "rank");
    check.end();
  }

  private static String five(String term) {
    return term + ("+" + term).repeat(4);
  }

  // ---- Promise 9

  private static void ways() {
    doc.of("ways", "WAYS of n.");
    ToldPowers x = Check.with("line from -3000 to 3000", "line from -1000 to 0+line from -2000 to 0", five("line from -3000 to 3000"));
    check.due("ways(0, -3000)", x.ways(0, -3000), 1);
    check.due("ways(0, 3000)", x.ways(0, 3000), 1);
    check.due("ways(1, -3000)", x.ways(1, -3000), 1);
    check.due("ways(1, -2999)", x.ways(1, -2999), 2);
    check.due("ways(1, 0)", x.ways(1, 0), 1);
    check.due("ways(1, 1)", x.ways(1, 1), 0);
    check.due("ways(1, 3000)", x.ways(1, 3000), 0);
    // more than 32 bits: of five x between -3000 and 3000 that are 0 together
    check.due("ways(2, 0)", x.ways(2, 0), fiveLines(0));
    check.due("ways(2, 3000)", x.ways(2, 3000), fiveLines(3000));
    check.due("ways(2, -3000)", x.ways(2, -3000), fiveLines(3000));
    // at the ends, behind forms of other widths in the same slot
    ToldPowers w = new ToldPowers();
    String[] texts = {"line+line", "square+line", "line from -3000 to 3000+line", "2line from 0 to 9+line", "line", "line from 2990 to 3000+line from 0 to 9"};
    int[] least = {0, 0, 1, 0, 0, 0};
    int[] most = {3001, 55, 3001, 10, 1, 10};
    for (int i = 0; i < 12; i++) {
      int at = i * 5 % 6;
      check.due("form '" + texts[at] + "'", Check.form(w, 0, texts[at]) > 0, true);
      check.due("ways of 3000 by '" + texts[at] + "'", w.ways(0, 3000), most[at]);
      check.due("ways of -3000 by '" + texts[at] + "'", w.ways(0, -3000), least[at]);
    }
    // the least sum of all is 3000, 3001, 15000, or the greatest is -15000
    ToldPowers y = Check.with("line from 2999 to 2999+line from 1 to 9", "line from 3000 to 3000+line from 1 to 1",
        five("line from 3000 to 3000"), five("line from -3000 to -3000"));
    for (int slot = 0; slot < 4; slot++) {
      int met = slot == 0 ? 1 : 0;
      check.due("ways(" + slot + ", 3000)", y.ways(slot, 3000), met);
      check.due("ways(" + slot + ", -3000)", y.ways(slot, -3000), 0);
      check.due("unlike(" + slot + ", 3000)", y.unlike(slot, 3000), met);
      check.due("missed by " + slot, y.missed(slot, -3000, 3000, -1), 6001 - met);
      check.due("way(" + slot + ", 3000, 0, 0)", y.way(slot, 3000, 0, 0), slot == 0 ? 2999 : NOTHING);
      check.due("full(" + slot + ")", y.full(slot), slot == 0 ? 3000 : -1);
      check.due("many(" + slot + ", 0, 1, false)", y.many(slot, 0, 1, false), slot == 0 ? 3000 : NOTHING);
    }
    check.due("of five", y.number(2, 3000, 3000, 3000, 3000, 3000, 3000), -1);
    check.due("a proof of them", y.write(2, 2999, 3000), 18);
    ToldPowers z = Check.with("line from 3000 to 3000+line from 1 to 1");
    check.due("the first call of all", z.ways(0, 3000), 0);
    check.due("the first call of all", Check.with("line from 3000 to 3000+line from 1 to 1").unlike(0, 3000), 0);
    check.due("the first call of all", Check.with(five("line from 3000 to 3000")).unlike(0, 3000), 0);
    check.due("the first call of all", Check.with(five("line from 3000 to 3000")).ways(0, 3000), 0);

    doc.of("ways", "NONE: no TERMS, no such SLOT, n.");
    for (int slot : NO_SLOTS) {
      check.due("ways(" + slot + ", 0)", x.ways(slot, 0), -1);
    }
    for (int n : NO_NUMBERS) {
      check.due("ways(0, " + n + ")", x.ways(0, n), -1);
      check.due("ways(3, " + n + ")", x.ways(3, n), -1);
    }
  }

  /** By inclusion and exclusion: five numbers 0 .. 6000 that are 15000 and n together. */
  private static long fiveLines(int n) {
    long sum = 15000 + n;
    long count = 0;
    long[] choose = {1, -5, 10, -10, 5, -1};
    for (int j = 0; j <= 5; j++) {
      long rest = sum - 6001L * j;
      count += rest < 0 ? 0 : choose[j] * fourOf(rest + 4);
    }
    return count;
  }

  private static long fourOf(long n) {
    return n * (n - 1) / 2 * (n - 2) / 3 * (n - 3) / 4;
  }

  // ---- Promise 10

  private static void unlike() {
    doc.of("unlike", "UNLIKE WAYS of n.");
    ToldPowers x = Check.with("line from -3000 to 3000+line from -3000 to 3000", five("line"), "square from -5 to 5+square from -5 to 5");
    check.due("unlike(0, -3000)", x.unlike(0, -3000), 1501);
    check.due("unlike(0, 3000)", x.unlike(0, 3000), 1501);
    check.due("unlike(0, 0)", x.unlike(0, 0), 3001);
    long[] parts = new long[3001];
    parts[0] = 1;
    for (int part = 1; part <= 5; part++) {
      for (int n = part; n <= 3000; n++) {
        parts[n] += parts[n - part];
      }
    }
    for (int n : new int[] {0, 1, 5, 6, 7, 1000, 2999, 3000}) {
      check.due("unlike(1, " + n + ")", x.unlike(1, n), parts[n]);
    }
    check.due("unlike(1, -1)", x.unlike(1, -1), 0);
    check.due("unlike(2, 50)", x.unlike(2, 50), 3);
    check.due("unlike(2, 51)", x.unlike(2, 51), 0);

    // at the end, behind other forms in the same slot
    ToldPowers y = new ToldPowers();
    String[] texts = {"square+square", "3square+3square", "square+square", "three+three", "3three+3three", "cube+cube", "3square+3square", "cube+cube"};
    for (String text : texts) {
      check.due("form '" + text + "'", Check.form(y, 0, text), 2);
      for (int n = 2990; n <= 3000; n++) {
        boolean thrice = text.charAt(0) == '3';
        int due = !thrice ? pairs(text.charAt(0), n) : n % 3 == 0 ? pairs(text.charAt(1), n / 3) : 0;
        check.due("unlike(0, " + n + ") of '" + text + "'", y.unlike(0, n), due);
      }
    }

    doc.of("unlike", "NONE likewise.");
    for (int slot : NO_SLOTS) {
      check.due("unlike(" + slot + ", 0)", x.unlike(slot, 0), -1);
    }
    for (int n : NO_NUMBERS) {
      check.due("unlike(0, " + n + ")", x.unlike(0, n), -1);
      check.due("unlike(3, " + n + ")", x.unlike(3, n), -1);
    }
  }

  private static int pairs(char kind, int n) {
    int found = 0;
    for (int u = 0; u <= 76; u++) {
      for (int v = u; v <= 76; v++) {
        int sum = kind == 's' ? u * u + v * v : kind == 'c' ? u * u * u + v * v * v : (u * u + u + v * v + v) / 2;
        found += sum == n ? 1 : 0;
      }
    }
    return found;
  }

  // ---- Promises 11 and 12

  private static void way() {
    doc.of("way", "Of the k-th WAY of n (from 0 on) the x of TERM i.");
    ToldPowers x = Check.with("line from -3000 to 3000+line from -3000 to 3000", "square+square", five("line from -3000 to 3000"));
    check.due("the first", x.way(0, -3000, 0, 0), -3000);
    check.due("the first", x.way(0, -3000, 0, 1), 0);
    check.due("the last", x.way(0, -3000, 3000, 0), 0);
    check.due("the last", x.way(0, -3000, 3000, 1), -3000);
    check.due("the first", x.way(0, 3000, 0, 0), 0);
    check.due("the last", x.way(0, 3000, 3000, 0), 3000);
    int[][] due = {{0, 5}, {3, 4}, {4, 3}, {5, 0}};
    for (int k = 0; k < 4; k++) {
      check.due("way " + k + " of 25", x.way(1, 25, k, 0), due[k][0]);
      check.due("way " + k + " of 25", x.way(1, 25, k, 1), due[k][1]);
    }
    long count = fiveLines(0);
    int[] last = {3000, 3000, 0, -3000, -3000};
    for (int i = 0; i < 5; i++) {
      check.due("a way beyond 32 bits", x.way(2, 0, count - 1, i), last[i]);
      check.due("the first of as many", x.way(2, 0, 0, i), -last[i]);
    }

    doc.of("way", "-100000: there is none such.");
    for (long k : new long[] {-1, 4, 5, 1L << 32, (1L << 32) + 1, -(1L << 32), Long.MIN_VALUE, Long.MAX_VALUE}) {
      check.due("way(1, 25, " + k + ", 0)", x.way(1, 25, k, 0), NOTHING);
    }
    check.due("behind the last", x.way(2, 0, count, 0), NOTHING);
    check.due("a missed n", x.way(1, 3, 0, 0), NOTHING);
    for (int i : new int[] {-1, 2, 5, MIN, MAX}) {
      check.due("way(1, 25, 0, " + i + ")", x.way(1, 25, 0, i), NOTHING);
    }
    check.due("a term that another slot has", x.way(2, 0, 0, 5), NOTHING);
    for (int n : NO_NUMBERS) {
      check.due("way(1, " + n + ", 0, 0)", x.way(1, n, 0, 0), NOTHING);
    }
    for (int slot : NO_SLOTS) {
      check.due("way(" + slot + ", 0, 0, 0)", x.way(slot, 0, 0, 0), NOTHING);
    }
  }

  private static void number() {
    doc.of("number", "The number (from 0 on) of a WAY of n, of which the x of TERMS 0, 1, .. are those told");
    ToldPowers x = Check.with("square from -5 to 5+square from -5 to 5", five("line from -3000 to 3000"), "line from 2 to 5");
    int[][] due = {{-5, 0}, {-4, -3}, {-4, 3}, {-3, -4}, {-3, 4}, {0, -5}, {0, 5}, {3, -4}, {3, 4}, {4, -3}, {4, 3}, {5, 0}};
    for (int k = 0; k < due.length; k++) {
      check.due("number of way " + k, x.number(0, 25, due[k][0], due[k][1], 0, 0, 0), k);
    }
    check.due("the first", x.number(1, 0, -3000, -3000, 0, 3000, 3000), 0);
    check.due("the last", x.number(1, 0, 3000, 3000, 0, -3000, -3000), fiveLines(0) - 1);
    check.due("the middle", x.number(1, 0, 0, 0, 0, 0, 0), (fiveLines(0) - 1) / 2);
    check.due("of one term", x.number(2, 5, 5, 0, 0, 0, 0), 0);
    // rows of five digits, all of one sum: each of the five numbers counts
    ToldPowers y = Check.with("line from 0 to 1+2line from 0 to 1+4line from 0 to 1+8line from 0 to 1+16line from 0 to 1");
    for (int n = 0; n < 32; n++) {
      for (int bits = 0; bits < 32; bits += n % 4 + 5) {
        long number = y.number(0, n, bits & 1, bits >> 1 & 1, bits >> 2 & 1, bits >> 3 & 1, bits >> 4);
        check.due("bits " + bits + " of " + n, number, bits == n ? 0 : -1);
      }
      check.due("bits " + n, y.number(0, n, n & 1, n >> 1 & 1, n >> 2 & 1, n >> 3 & 1, n >> 4), 0);
    }

    doc.of("number", "(others don't matter).");
    check.due("others", x.number(0, 25, 3, 4, MIN, MAX, -1), 8);
    check.due("others", x.number(2, 2, 2, 9999, -9999, MAX, MIN), 0);

    doc.of("number", "NONE: it is no WAY, there is none such.");
    check.due("another sum", x.number(0, 25, 3, 3, 0, 0, 0), -1);
    check.due("another n", x.number(0, 24, 3, 4, 0, 0, 0), -1);
    check.due("below LOW", x.number(0, 36, -6, 0, 0, 0, 0), -1);
    check.due("above HIGH", x.number(0, 36, 0, 6, 0, 0, 0), -1);
    check.due("below LOW", x.number(2, 1, 1, 0, 0, 0, 0), -1);
    check.due("above HIGH", x.number(2, 6, 6, 0, 0, 0, 0), -1);
    // squares that numbers of 32 bits would take for 0, and for 25 together
    check.due("65536", x.number(0, 0, 65536, 0, 0, 0, 0), -1);
    check.due("65536", x.number(0, 25, 5, -65536, 0, 0, 0), -1);
    check.due("MIN", x.number(0, 0, MIN, 0, 0, 0, 0), -1);
    check.due("MIN, MAX, 1", x.number(1, 0, MIN, MAX, 1, 0, 0), -1);
    check.due("the 5th too great", x.number(1, 1, -3000, 0, 0, 0, 3001), -1);
    for (int n : NO_NUMBERS) {
      check.due("number(1, " + n + ")", x.number(1, n, n > 0 ? 3000 : -3000, n > 0 ? 1 : -1, 0, 0, 0), -1);
    }
    for (int slot : NO_SLOTS) {
      check.due("number(" + slot + ", 0)", x.number(slot, 0, 0, 0, 0, 0, 0), -1);
    }
  }

  // ---- Promises 13 and 14

  private static void missed() {
    doc.of("missed", "MISSED n from one to another one (-3000 .. 3000, not below):");
    ToldPowers x = Check.with("square+square+square", "2line from -1500 to 1500", "line from -3000 to 3000");
    check.due("all", x.missed(1, -3000, 3000, -1), 3000);
    check.due("the first of all", x.missed(1, -3000, 3000, 0), -2999);
    check.due("the last of all", x.missed(1, -3000, 3000, 2999), 2999);
    check.due("the least alone", x.missed(0, -3000, -3000, -1), 1);
    check.due("the least alone", x.missed(0, -3000, -3000, 0), -3000);
    check.due("the greatest alone", x.missed(0, 3000, 3000, -1), 0);
    check.due("one missed", x.missed(0, 7, 7, 0), 7);
    check.due("one that isn't", x.missed(0, 6, 6, -1), 0);
    check.due("both ends are of it", x.missed(0, 7, 15, -1), 2);
    check.due("up to it", x.missed(0, 8, 14, -1), 0);

    doc.of("missed", "how many (i NONE),");
    check.due("7, 15, 23, 28, 31, 39, 47, 55, 60", x.missed(0, 0, 60, -1), 9);
    check.due("none", x.missed(2, -3000, 3000, -1), 0);

    doc.of("missed", "the i-th (from 0 on).");
    int[] due = {7, 15, 23, 28, 31, 39, 47, 55, 60};
    for (int i = 0; i < due.length; i++) {
      check.due("missed " + i, x.missed(0, 0, 60, i), due[i]);
    }

    doc.of("missed", "-100000: there are none such.");
    check.due("behind the last", x.missed(0, 0, 60, 9), NOTHING);
    check.due("behind the last", x.missed(2, -3000, 3000, 0), NOTHING);
    for (int i : new int[] {-2, -3, MIN, MAX}) {
      check.due("missed(0, 0, 60, " + i + ")", x.missed(0, 0, 60, i), NOTHING);
    }
    for (int[] range : NO_RANGES) {
      check.due("missed(0, " + range[0] + ", " + range[1] + ", -1)", x.missed(0, range[0], range[1], -1), NOTHING);
      check.due("missed(0, " + range[0] + ", " + range[1] + ", 0)", x.missed(0, range[0], range[1], 0), NOTHING);
    }
    for (int slot : NO_SLOTS) {
      check.due("missed(" + slot + ", 0, 9, -1)", x.missed(slot, 0, 9, -1), NOTHING);
      check.due("missed(" + slot + ", 0, 9, 0)", x.missed(slot, 0, 9, 0), NOTHING);
    }
  }

  private static void explained() {
    doc.of("explained", "Of MISSED n from one to another one how many are EXPLAINED by m.");
    ToldPowers x = Check.with("square+square+square", "60line", "line from -3000 to 3000");
    check.due("by 8", x.explained(0, 0, 60, 8), 7);
    check.due("by 4", x.explained(0, 0, 60, 4), 0);
    check.due("by 1", x.explained(0, 0, 60, 1), 0);
    check.due("by 60", x.explained(1, 0, 119, 60), 118);
    check.due("below 0", x.explained(1, -119, -1, 60), 118);
    check.due("all", x.explained(1, -3000, 3000, 60), 6001 - 101);
    check.due("the least alone", x.explained(1, -3000, -3000, 60), 0);
    check.due("the least but one", x.explained(1, -2999, -2999, 60), 1);
    check.due("both ends are of it", x.explained(0, 7, 15, 8), 2);
    check.due("none is missed", x.explained(2, -3000, 3000, 8), 0);

    doc.of("explained", "NONE: there are none such.");
    for (int m : NO_MODULI) {
      check.due("explained(0, 0, 60, " + m + ")", x.explained(0, 0, 60, m), -1);
    }
    for (int[] range : NO_RANGES) {
      check.due("explained(0, " + range[0] + ", " + range[1] + ", 8)", x.explained(0, range[0], range[1], 8), -1);
    }
    for (int slot : NO_SLOTS) {
      check.due("explained(" + slot + ", 0, 9, 8)", x.explained(slot, 0, 9, 8), -1);
    }
  }

  // ---- Promise 15

  private static void full() {
    doc.of("full", "The least n (0 .. 3000) from which on none up to 3000 is MISSED.");
    ToldPowers x = Check.with("line", "line from -3000 to 3000", "line from 3000 to 3000");
    check.due("from 0 on", x.full(0), 0);
    check.due("from 0 on, not below", x.full(1), 0);
    check.due("3000 alone", x.full(2), 3000);
    ToldPowers y = Check.with("line from 1 to 3000", "line from 2999 to 3000", "3line+5line");
    check.due("from 1 on", y.full(0), 1);
    check.due("from 2999 on", y.full(1), 2999);
    check.due("from 8 on", y.full(2), 8);
    check.due("four squares", Check.with("square+square+square+square").full(0), 0);
    check.due("behind a gap", Check.with("line from 0 to 0+line from 2 to 3000").full(0), 2);

    doc.of("full", "NONE: 3000 is,");
    check.due("3000 is missed", Check.with("line from 0 to 2999").full(0), -1);
    check.due("3000 is missed", Check.with("line from -3000 to -3000").full(0), -1);
    check.due("3000 is missed", Check.with("square").full(0), -1);

    doc.of("full", "no TERMS, no such SLOT.");
    for (int slot : NO_SLOTS) {
      check.due("full(" + slot + ")", x.full(slot), -1);
    }
  }

  // ---- Promises 16 to 19

  private static void met() {
    doc.of("met", "In how many ways a CLASS r of m is met.");
    ToldPowers x = Check.with("square+square", "three", "60line");
    long[] due = {4, 8, 4, 0};
    for (int r = 0; r < 4; r++) {
      check.due("met(0, 4, " + r + ")", x.met(0, 4, r), due[r]);
    }
    check.due("met(0, 1, 0)", x.met(0, 1, 0), 1);
    check.due("met(1, 1, 0)", x.met(1, 1, 0), 2);
    check.due("met(1, 3, 0)", x.met(1, 3, 0), 4);
    check.due("met(2, 60, 0)", x.met(2, 60, 0), 60);
    check.due("met(2, 60, 59)", x.met(2, 60, 59), 0);

    doc.of("met", "NONE: there is none such.");
    for (int r : new int[] {-1, 4, 5, MIN, MAX}) {
      check.due("met(0, 4, " + r + ")", x.met(0, 4, r), -1);
    }
    check.due("met(0, 60, 60)", x.met(0, 60, 60), -1);
    check.due("met(0, 1, 1)", x.met(0, 1, 1), -1);
    for (int m : NO_MODULI) {
      check.due("met(0, " + m + ", 0)", x.met(0, m, 0), -1);
      check.due("met(0, " + m + ", -1)", x.met(0, m, -1), -1);
    }
    for (int slot : NO_SLOTS) {
      check.due("met(" + slot + ", 4, 0)", x.met(slot, 4, 0), -1);
    }
  }

  private static void meets() {
    doc.of("meets", "Of the first row (the x of TERM 0 the least, then of 1, ..) by which a CLASS r of m is met the x of TERM i.");
    ToldPowers x = Check.with("square+square+square", "three from 5 to 5", "line+line+line+line+line");
    int[][] due = {{0, 0, 0}, {0, 0, 1}, {0, 1, 1}, {1, 1, 1}, {0, 0, 2}, {0, 1, 2}, {1, 1, 2}};
    for (int r = 0; r < due.length; r++) {
      for (int i = 0; i < 3; i++) {
        check.due("meets(0, 8, " + r + ", " + i + ")", x.meets(0, 8, r, i), due[r][i]);
      }
    }
    check.due("a row of 2 m", x.meets(1, 16, 8, 0), 15);
    check.due("a row of 2 m", x.meets(1, 4, 2, 0), 3);
    check.due("the last x", x.meets(2, 60, 59, 4), 59);
    check.due("the first x", x.meets(2, 60, 59, 3), 0);
    check.due("of 1", x.meets(2, 1, 0, 4), 0);

    doc.of("meets", "NONE: there is none such,");
    for (int i : new int[] {-1, 3, 5, MIN, MAX}) {
      check.due("meets(0, 8, 0, " + i + ")", x.meets(0, 8, 0, i), -1);
    }
    for (int r : new int[] {-1, 8, MIN, MAX}) {
      check.due("meets(0, 8, " + r + ", 0)", x.meets(0, 8, r, 0), -1);
    }
    for (int m : NO_MODULI) {
      check.due("meets(0, " + m + ", 0, 0)", x.meets(0, m, 0, 0), -1);
    }
    for (int slot : NO_SLOTS) {
      check.due("meets(" + slot + ", 8, 0, 0)", x.meets(slot, 8, 0, 0), -1);
    }

    doc.of("meets", "it is NEVER met.");
    for (int i = 0; i < 3; i++) {
      check.due("meets(0, 8, 7, " + i + ")", x.meets(0, 8, 7, i), -1);
    }
    check.due("meets(1, 3, 2, 0)", x.meets(1, 3, 2, 0), -1);
  }

  private static void never() {
    doc.of("never", "CLASSES of m that are NEVER met: how many (i NONE), the i-th.");
    ToldPowers x = Check.with("square", "line", "60line");
    int[] due = {2, 3, 5, 6, 7};
    check.due("never(0, 8, -1)", x.never(0, 8, -1), due.length);
    for (int i = 0; i < due.length; i++) {
      check.due("never(0, 8, " + i + ")", x.never(0, 8, i), due[i]);
    }
    check.due("none", x.never(1, 60, -1), 0);
    check.due("none of 1", x.never(0, 1, -1), 0);
    check.due("all but one", x.never(2, 60, -1), 59);
    check.due("the first of all but one", x.never(2, 60, 0), 1);
    check.due("the last of all but one", x.never(2, 60, 58), 59);

    doc.of("never", "NONE: there are none such.");
    check.due("behind the last", x.never(0, 8, 5), -1);
    check.due("behind the last", x.never(1, 60, 0), -1);
    check.due("behind the last", x.never(2, 60, 59), -1);
    for (int i : new int[] {-2, MIN, MAX}) {
      check.due("never(0, 8, " + i + ")", x.never(0, 8, i), -1);
    }
    for (int m : NO_MODULI) {
      check.due("never(0, " + m + ", -1)", x.never(0, m, -1), -1);
    }
    for (int slot : NO_SLOTS) {
      check.due("never(" + slot + ", 8, -1)", x.never(slot, 8, -1), -1);
    }
  }

  private static void bars() {
    doc.of("bars", "The least m (1 .. 60) of which some CLASS is NEVER met.");
    ToldPowers x = Check.with("square", "2line from 1 to 1", "three");
    check.due("squares", x.bars(0), 3);
    check.due("evens", x.bars(1), 2);
    check.due("threes", x.bars(2), 3);
    ToldPowers y = Check.with("59line", "square+square", "square+square+square");
    check.due("59", y.bars(0), 59);
    check.due("two squares", y.bars(1), 4);
    check.due("three squares", y.bars(2), 8);

    doc.of("bars", "NONE: there is none,");
    ToldPowers z = Check.with("61line", "line from 7 to 7", "square+square+square+square");
    check.due("61 is too great", z.bars(0), -1);
    check.due("lines", z.bars(1), -1);
    check.due("four squares", z.bars(2), -1);

    doc.of("bars", "no TERMS, no such SLOT.");
    for (int slot : NO_SLOTS) {
      check.due("bars(" + slot + ")", x.bars(slot), -1);
    }
  }

  // ---- Promise 20

  private static void many() {
    doc.of("many", "The least n from one on (-3000 .. 3000)");
    ToldPowers x = Check.with("line from -3000 to 3000", "cube+cube", "line from 0 to 99+line from 1 to 100+line from 2 to 101+line from -3000 to 3000");
    for (int from : new int[] {-3000, -1, 0, 1, 2999, 3000}) {
      check.due("many(0, " + from + ", 1, false)", x.many(0, from, 1, false), from);
      check.due("many(0, " + from + ", 1, true)", x.many(0, from, 1, true), from);
    }
    check.due("from 1729 on", x.many(1, 1729, 2, false), 1729);
    check.due("from below", x.many(1, -3000, 2, false), 1729);
    for (int from : NO_NUMBERS) {
      check.due("many(0, " + from + ", 1, false)", x.many(0, from, 1, false), NOTHING);
    }

    doc.of("many", "with k UNLIKE WAYS (1 .. 1000000) or more;");
    check.due("just a million", x.many(2, -3000, 1000000, false), -2700);
    check.due("a million at once", x.many(2, -2700, 1000000, false), -2700);
    check.due("one less", x.many(2, -3000, 999999, false), -2701);
    check.due("more than one", x.many(2, 5, 1, false), 5);
    check.due("unlike ones, not all", x.many(1, 1, 1, true), 1);
    check.due("unlike ones, not all", x.many(1, 0, 2, false), 1729);
    for (int k : new int[] {0, -1, 1000001, MIN, MAX}) {
      check.due("many(2, -3000, " + k + ", false)", x.many(2, -3000, k, false), NOTHING);
      check.due("many(2, -3000, " + k + ", true)", x.many(2, -3000, k, true), NOTHING);
    }
    check.due("where there are more than a million", Check.with(five("line")).many(0, 0, 1000001, false), NOTHING);
    check.due("where there are 0", x.many(1, 3, 0, true), NOTHING);

    doc.of("many", "exact: with just k.");
    check.due("just a million", x.many(2, -3000, 1000000, true), -2700);
    check.due("one less", x.many(2, -3000, 999999, true), -2701);
    check.due("not one more", x.many(2, -2700, 999999, true), NOTHING);
    ToldPowers y = Check.with("square+square");
    check.due("two or more", y.many(0, 325, 2, false), 325);
    check.due("just two", y.many(0, 325, 2, true), 338);
    check.due("just three", y.many(0, 0, 3, true), 325);

    doc.of("many", "-100000: there is none such.");
    check.due("behind the last", y.many(0, 3000, 1, true), NOTHING);
    check.due("too many", y.many(0, 0, 1000000, false), NOTHING);
    for (int slot : NO_SLOTS) {
      check.due("many(" + slot + ", 0, 1, false)", x.many(slot, 0, 1, false), NOTHING);
    }
  }

  // ---- Promises 21 to 23

  private static void greed() {
    doc.of("greed", "Of GREED to n the x of TERM i;");
    ToldPowers x = Check.with("square+square+square", "line from -3000 to 3000", five("line from 3000 to 3000"));
    int[] due = {5, 1, 1};
    for (int i = 0; i < 3; i++) {
      check.due("greed(0, 27, " + i + ")", x.greed(0, 27, i), due[i]);
    }
    check.due("greed(1, 3000, 0)", x.greed(1, 3000, 0), 3000);
    check.due("greed(1, -3000, 0)", x.greed(1, -3000, 0), -3000);
    check.due("greed(2, 3000, 4)", x.greed(2, 3000, 4), 3000);

    doc.of("greed", "i NONE: what is left.");
    check.due("greed(0, 27, -1)", x.greed(0, 27, -1), 0);
    check.due("greed(0, 28, -1)", x.greed(0, 28, -1), 1);
    check.due("greed(0, -1, -1)", x.greed(0, -1, -1), -1);
    check.due("greed(2, -3000, -1)", x.greed(2, -3000, -1), -18000);

    doc.of("greed", "-100000: there is none such.");
    for (int i : new int[] {-2, 3, 5, MIN, MAX}) {
      check.due("greed(0, 27, " + i + ")", x.greed(0, 27, i), NOTHING);
    }
    for (int n : NO_NUMBERS) {
      check.due("greed(0, " + n + ", 0)", x.greed(0, n, 0), NOTHING);
      check.due("greed(0, " + n + ", -1)", x.greed(0, n, -1), NOTHING);
    }
    for (int slot : NO_SLOTS) {
      check.due("greed(" + slot + ", 1, 0)", x.greed(slot, 1, 0), NOTHING);
      check.due("greed(" + slot + ", 1, -1)", x.greed(slot, 1, -1), NOTHING);
    }
  }

  private static void nearest() {
    doc.of("nearest", "The SUM nearest to n (-3000 .. 3000),");
    ToldPowers x = Check.with("line from -3000 to 3000", "line from 5 to 5+line from -100 to -100", five("line from 3000 to 3000"));
    for (int n : new int[] {-3000, -1, 0, 1, 3000}) {
      check.due("nearest(0, " + n + ")", x.nearest(0, n), n);
      check.due("nearest(1, " + n + ")", x.nearest(1, n), -95);
      check.due("the sum may lie beyond", x.nearest(2, n), 15000);
    }
    check.due("all sums below", Check.with(five("line from -3000 to -3000")).nearest(0, 3000), -15000);
    ToldPowers y = Check.with("cube from -5 to -2", "square", "99fourth from 0 to 2");
    check.due("the lesser is nearer", y.nearest(0, -46), -64);
    check.due("the greater is nearer", y.nearest(0, -45), -27);
    check.due("one above", y.nearest(1, 7), 9);
    check.due("one below", y.nearest(1, 6), 4);
    check.due("from below all", y.nearest(1, -3000), 0);
    check.due("from above all", y.nearest(1, 3000), 2916);
    // sums that stand far apart behind sums of another slot that stand close
    ToldPowers w = Check.with("line from 0 to 200", "10line from 0 to 20", "64line from 0 to 3+line from 0 to 2", "square from 0 to 9+64line from 0 to 1");
    for (int n = 0; n <= 200; n += 7) {
      check.due("nearest(0, " + n + ")", w.nearest(0, n), n);
      check.due("nearest(1, " + n + ")", w.nearest(1, n), (n + 4) / 10 * 10);
      int over = n % 64;
      check.due("nearest(2, " + n + ")", w.nearest(2, n), over <= 2 || n > 194 ? Math.min(n, 194) : over <= 33 ? n - over + 2 : n - over + 64);
    }
    int[] sums = {0, 1, 4, 9, 16, 25, 36, 49, 64, 65, 68, 73, 80, 81, 89, 100, 113, 128, 145};
    for (int i = 1; i < sums.length; i++) {
      check.due("nearest(3, " + sums[i] + ")", w.nearest(3, sums[i]), sums[i]);
      for (int n = sums[i - 1] + 1; n < sums[i]; n++) {
        check.due("nearest(3, " + n + ")", w.nearest(3, n), n - sums[i - 1] <= sums[i] - n ? sums[i - 1] : sums[i]);
      }
    }

    doc.of("nearest", "of two the lesser.");
    ToldPowers z = Check.with("2line from -1500 to 1500", "10line from -3 to 3", "line from -3000 to -3000+6line from 100 to 500");
    check.due("nearest(0, 7)", z.nearest(0, 7), 6);
    check.due("nearest(0, -7)", z.nearest(0, -7), -8);
    check.due("nearest(1, 5)", z.nearest(1, 5), 0);
    check.due("nearest(1, -5)", z.nearest(1, -5), -10);
    check.due("nearest(2, -2391)", z.nearest(2, -2391), -2394);

    doc.of("nearest", "-100000: there is none such, no TERMS, no such SLOT.");
    for (int n : NO_NUMBERS) {
      check.due("nearest(0, " + n + ")", x.nearest(0, n), NOTHING);
    }
    for (int slot : NO_SLOTS) {
      check.due("nearest(" + slot + ", 0)", x.nearest(slot, 0), NOTHING);
    }
  }

  private static void enough() {
    doc.of("enough", "How many TERMS from 0 on are enough for a WAY of n by these alone (the fewest).");
    ToldPowers x = Check.with("square+square+square+square", "line from 3 to 3+line from -3 to 0+line from -3000 to 3000",
        "line from -3000 to 3000+line from 3000 to 3000+line from -3000 to 3000");
    int[] due = {1, 1, 2, 3, 1, 2, 3, 4, 2, 1};
    for (int n = 0; n < due.length; n++) {
      check.due("enough(0, " + n + ")", x.enough(0, n), due[n]);
    }
    check.due("one term alone", x.enough(1, 3), 1);
    check.due("two terms", x.enough(1, 0), 2);
    check.due("all", x.enough(1, 4), 3);
    check.due("all", x.enough(1, 3000), 3);
    check.due("the least", x.enough(2, -3000), 1);
    check.due("the greatest", x.enough(2, 3000), 1);
    ToldPowers y = Check.with("63line from 0 to 1+square from 0 to 1", "64line from 0 to 1");
    int[] sums = {0, 1, 63, 64, 65, 127};
    int[] counts = {1, 2, 1, 2, -1, -1};
    for (int i = 0; i < sums.length; i++) {
      check.due("enough(0, " + sums[i] + ") of 63 and 1", y.enough(0, sums[i]), counts[i]);
    }
    check.due("64 alone", y.enough(1, 64), 1);
    check.due("64 alone", y.enough(1, 63), -1);
    check.due("by five", Check.with(five("line from 1 to 1")).enough(0, 5), 5);
    // one term has this sum, all five together have not
    check.due("by one, not by all", Check.with(five("line from 7 to 7")).enough(0, 7), 1);

    doc.of("enough", "NONE: there is none by any number of them (by all, too),");
    check.due("by none", x.enough(0, -1), -1);
    check.due("by none", Check.with(five("line from 1 to 1")).enough(0, 6), -1);
    check.due("no term at all is not enough", Check.with(five("line from 1 to 1")).enough(0, 0), -1);
    check.due("terms from 1 on don't count", Check.with("line from 5 to 5+line from 7 to 7").enough(0, 7), -1);

    doc.of("enough", "no such SLOT, n.");
    for (int n : NO_NUMBERS) {
      check.due("enough(0, " + n + ")", x.enough(0, n), -1);
    }
    for (int slot : NO_SLOTS) {
      check.due("enough(" + slot + ", 0)", x.enough(slot, 0), -1);
    }
  }

  // ---- Promises 27, 33 and 34

  private static void common() {
    doc.of("common", "n from one to another one (-3000 .. 3000) that have WAYS by both of two SLOTS: how many (i NONE), the i-th.");
    ToldPowers x = Check.with("square", "three", "line from -3000 to 3000");
    int[] due = {0, 1, 36, 1225};
    check.due("how many", x.common(0, 1, -3000, 3000, -1), due.length);
    for (int i = 0; i < due.length; i++) {
      check.due("common " + i, x.common(0, 1, -3000, 3000, i), due[i]);
      check.due("common " + i + " the other way", x.common(1, 0, -3000, 3000, i), due[i]);
    }
    check.due("with itself", x.common(2, 2, -3000, 3000, -1), 6001);
    check.due("the least", x.common(2, 2, -3000, 3000, 0), -3000);
    check.due("the greatest", x.common(2, 2, -3000, 3000, 6000), 3000);
    check.due("one alone", x.common(0, 1, 36, 36, -1), 1);
    check.due("both ends are of it", x.common(0, 1, 1, 36, -1), 2);
    check.due("none", x.common(0, 1, 2, 35, -1), 0);

    doc.of("common", "-100000: there are none such.");
    check.due("behind the last", x.common(0, 1, -3000, 3000, 4), NOTHING);
    check.due("behind none", x.common(0, 1, 2, 35, 0), NOTHING);
    for (int i : new int[] {-2, MIN, MAX}) {
      check.due("common(0, 1, 0, 9, " + i + ")", x.common(0, 1, 0, 9, i), NOTHING);
    }
    for (int[] range : NO_RANGES) {
      check.due("common(0, 1, " + range[0] + ", " + range[1] + ", -1)", x.common(0, 1, range[0], range[1], -1), NOTHING);
    }
    for (int slot : NO_SLOTS) {
      check.due("common(" + slot + ", 0, 0, 9, -1)", x.common(slot, 0, 0, 9, -1), NOTHING);
      check.due("common(0, " + slot + ", 0, 9, -1)", x.common(0, slot, 0, 9, -1), NOTHING);
    }
  }

  private static void gap() {
    doc.of("gap", "Of n from one to another one the longest row of MISSED ones side by side,");
    ToldPowers x = Check.with("square from 0 to 5", "2line", "line from -3000 to 3000");
    check.due("within", x.gap(0, 0, 25, 0), 8);
    check.due("within", x.gap(0, 0, 25, 1), 17);
    check.due("cut at the end", x.gap(0, 0, 20, 0), 6);
    check.due("cut at the end", x.gap(0, 0, 20, 1), 10);
    check.due("up to the end", x.gap(0, 0, 33, 0), 8);
    check.due("up to the end", x.gap(0, 0, 34, 0), 9);
    check.due("up to the end", x.gap(0, 0, 34, 1), 26);
    check.due("cut at the begin", x.gap(0, 18, 25, 0), 7);
    check.due("cut at the begin", x.gap(0, 18, 25, 1), 18);
    check.due("all", x.gap(0, -3000, 3000, 0), 3000);
    check.due("all", x.gap(0, -3000, 3000, 1), -3000);
    check.due("one alone", x.gap(0, 3000, 3000, 0), 1);
    check.due("one alone", x.gap(0, 3000, 3000, 1), 3000);

    doc.of("gap", "of several the first:");
    check.due("the first of rows of one", x.gap(1, 0, 100, 1), 1);
    check.due("the first of rows of one", x.gap(1, -3, 100, 1), -3);
    check.due("both rows of six", Check.with("line from 0 to 0+7line from 0 to 3").gap(0, 0, 14, 1), 1);

    doc.of("gap", "how many (what 0), the first of them (1).");
    check.due("how many", x.gap(0, 2, 3, 0), 2);
    check.due("the first of them", x.gap(0, 2, 3, 1), 2);
    check.due("how many", x.gap(1, 0, 100, 0), 1);
    check.due("none is missed", x.gap(2, -3000, 3000, 0), 0);

    doc.of("gap", "-100000: there are none such, another what, (1) none is MISSED.");
    check.due("none is missed", x.gap(2, -3000, 3000, 1), NOTHING);
    check.due("none is missed", x.gap(0, 4, 4, 1), NOTHING);
    for (int what : new int[] {-1, 2, MIN, MAX}) {
      check.due("gap(0, 0, 25, " + what + ")", x.gap(0, 0, 25, what), NOTHING);
    }
    for (int[] range : NO_RANGES) {
      check.due("gap(0, " + range[0] + ", " + range[1] + ", 0)", x.gap(0, range[0], range[1], 0), NOTHING);
      check.due("gap(0, " + range[0] + ", " + range[1] + ", 1)", x.gap(0, range[0], range[1], 1), NOTHING);
    }
    for (int slot : NO_SLOTS) {
      check.due("gap(" + slot + ", 0, 9, 0)", x.gap(slot, 0, 9, 0), NOTHING);
      check.due("gap(" + slot + ", 0, 9, 1)", x.gap(slot, 0, 9, 1), NOTHING);
    }
  }

  private static void rank() {
    doc.of("rank", "Of n from one to another one (200 of them at most) the i-th (from 0 on) by WAYS, the most first, of like ones the lesser n first.");
    ToldPowers x = Check.with("square+square", "line from -3000 to 3000", "square+line from 0 to 1");
    int[] due = {25, 1, 4, 5, 9, 10, 13, 16, 17, 20, 26, 29, 0, 2, 8, 18, 3, 6, 7, 11, 12, 14, 15, 19, 21, 22, 23, 24, 27, 28, 30};
    for (int i = 0; i < due.length; i++) {
      check.due("rank(0, 0, 30, " + i + ")", x.rank(0, 0, 30, i), due[i]);
    }
    check.due("of 200 the first", x.rank(1, -3000, -2801, 0), -3000);
    check.due("of 200 the last", x.rank(1, -3000, -2801, 199), -2801);
    check.due("of 200 the last", x.rank(1, 2801, 3000, 199), 3000);
    check.due("of one", x.rank(0, 3, 3, 0), 3);
    // 0 and 1 have one unlike way each, but 1 has two ways
    check.due("by ways, not unlike ones", x.rank(0, 0, 1, 0), 1);
    check.due("terms that aren't like", x.rank(2, 0, 30, 0), 1);

    doc.of("rank", "-100000: there is none such, they are more.");
    for (int i : new int[] {-1, -2, 31, 199, MIN, MAX}) {
      check.due("rank(0, 0, 30, " + i + ")", x.rank(0, 0, 30, i), NOTHING);
    }
    check.due("of 200 the 201st", x.rank(1, 2801, 3000, 200), NOTHING);
    check.due("201 of them", x.rank(1, 2800, 3000, 0), NOTHING);
    check.due("201 of them", x.rank(1, -3000, -2800, 200), NOTHING);
    check.due("all of them", x.rank(1, -3000, 3000, 0), NOTHING);
    for (int[] range : NO_RANGES) {
      check.due("rank(0, " + range[0] + ", " + range[1] + ", 0)", x.rank(0, range[0], range[1], 0), NOTHING);
    }
    for (int slot : NO_SLOTS) {
      check.due("rank(" + slot + ", 0, 9, 0)", x.rank(slot, 0, 9, 0), NOTHING);
    }
  }
}
