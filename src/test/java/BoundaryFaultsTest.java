/** FAULTS and WITHIN of the section "Terms": a test of its own for each sentence, told in its first line. */
public final class BoundaryFaultsTest {
  private static final String[] KINDS = {"line", "square", "cube", "fourth", "three"};
  private static final String FIVE = "line+line+line+line+line";
  /** Sums from -9 to 34. */
  private static final String PROVED = "square from -2 to 5+line from -9 to 9";
  private static final Check check = new Check("BoundaryFaultsTest");
  private static final Doc doc = new Doc(check);

  public static void main(String[] args) {
    firstByPlace();
    leastOfOnePlace();
    cannotStand();
    factors();
    ranges();
    sixthTerms();
    numbersOfLines();
    wrongX();
    untrueLines();
    sixtyFirstLines();
    powers();
    openOnes();
    sixtyFirstParts();
    withinForms();
    withinProofs();
    withinIdentities();
    doc.all("FAULTS, the first", "WITHIN of a FAULT");
    check.end();
  }

  private static void form(String text, int fault, int place, int term) {
    ToldPowers x = new ToldPowers();
    check.due("form '" + text + "'", Check.form(x, 0, text), -1);
    check.text("fault of '" + text + "'", Check.fault(x), fault + " " + place + " " + term + " -1");
  }

  private static void formed(String text) {
    ToldPowers x = new ToldPowers();
    check.due("form '" + text + "'", Check.form(x, 0, text) > 0, true);
    check.text("fault of '" + text + "'", Check.fault(x), "0 -1 -1 -1");
  }

  private static void proof(String proved, String text, int fault, int place, int line, int term) {
    ToldPowers x = Check.with(proved);
    check.due("prove '" + text + "'", Check.prove(x, 0, text), -1);
    check.text("fault of '" + text + "'", Check.fault(x), fault + " " + place + " " + line + " " + term);
  }

  private static void proof(String text, int fault, int place, int line, int term) {
    proof(PROVED, text, fault, place, line, term);
  }

  private static void proved(String text, int lines) {
    ToldPowers x = Check.with(PROVED);
    check.due("prove '" + text + "'", Check.prove(x, 0, text), lines);
    check.text("fault of '" + text + "'", Check.fault(x), "0 -1 -1 -1");
  }

  private static void identity(String text, int fault, int place, int side, int open) {
    ToldPowers x = new ToldPowers();
    check.due("identity '" + text + "'", Check.identity(x, text), -1);
    check.text("fault of '" + text + "'", Check.fault(x), fault + " " + place + " " + side + " " + open);
  }

  private static void equal(String text) {
    ToldPowers x = new ToldPowers();
    check.due("identity '" + text + "'", Check.identity(x, text) >= 0, true);
    check.text("fault of '" + text + "'", Check.fault(x), "0 -1 -1 -1");
  }

  /** Right lines of missed n from one on. */
  private static String lines(int from, int count) {
    StringBuilder text = new StringBuilder();
    for (int n = from; n < from + count; n++) {
      text.append(n).append("not;");
    }
    return text.toString();
  }

  /** A sum of so many letters, each a part. */
  private static String sum(int parts) {
    return "a" + "+a".repeat(parts - 1);
  }

  // ---- which fault is told

  private static void firstByPlace() {
    doc.of("FAULTS, the first", "FAULTS, the first by its place (from 0; the end: its length),");
    form("x", 1, 0, 0);
    form("  x", 1, 2, 0);
    form("", 1, 0, 0);
    form(" \n", 1, 2, 0);
    form("line+", 1, 5, 1);
    form("line+ \n ", 1, 8, 1);
    form("line" + " ".repeat(795) + "+", 1, 800, 1);
    form("0line+100line", 2, 0, 0);
    form("100line from 9 to 8+x", 2, 0, 0);
    form("line from 3001 to 3002", 3, 10, 0);
    form("line from 9 to 8+0line", 3, 15, 0);
    form(FIVE + "+7lin", 4, 25, 5);
    form("line lin from 9 to 8", 1, 5, 0);
    proof("x", 1, 0, 0, -1);
    proof("25=5,0", 1, 6, 0, -1);
    proof("25=5,0 \n", 1, 8, 0, -1);
    proof(" ".repeat(798) + "35", 1, 800, 0, -1);
    proof("3001not;25=5;", 5, 0, 0, -1);
    proof("25=6,10;x", 6, 3, 0, 0);
    proof("25=5,10;x", 6, 5, 0, 1);
    proof("25=5,1;25=5", 8, 6, 0, -1);
    proof("25=5,0,-x;", 7, 7, 0, 2);
    proof(lines(100, 60) + "-x", 9, 420, 60, -1);
    proof(lines(100, 60) + "-3001not;", 9, 420, 60, -1);
    identity("", 1, 0, 0, 0);
    identity("a+  ", 1, 4, 0, 0);
    identity("a=" + " ".repeat(797) + "g", 1, 799, 1, 0);
    identity("a" + " ".repeat(798) + "=", 1, 800, 1, 0);
    identity("a^7+g", 10, 2, 0, 0);
    identity("g+a^7", 1, 0, 0, 0);
    identity("(((((((" + sum(60), 11, 6, 0, 6);
  }

  private static void leastOfOnePlace() {
    doc.of("FAULTS, the first", "of one place the least number:");
    form("00100line", 1, 0, 0);
    form("line from 30010 to 1", 1, 10, 0);
    form(FIVE + "+lin", 1, 25, 5);
    form(FIVE + "+", 1, 25, 5);
    form(FIVE + "+00001line", 1, 25, 5);
    form(FIVE + "+0line", 2, 25, 5);
    form(FIVE + "+100line", 2, 25, 5);
    proof("30010not;", 1, 0, 0, -1);
    proof("25=12345,0;", 1, 3, 0, 0);
    proof("25=5,0,x;", 1, 7, 0, 2);
    proof("25=5,0,00000;", 1, 7, 0, 2);
    proof("25=5,0,;", 1, 7, 0, 2);
    proof("25=4;", 7, 4, 0, -1);
    proof(lines(100, 60) + "x", 1, 420, 60, -1);
    proof(lines(100, 60) + "30010not;", 1, 420, 60, -1);
    proof(lines(100, 60) + "3001not;", 5, 420, 60, -1);
    proof(lines(100, 60) + "159not;", 5, 420, 60, -1);
    identity("a^00007=a", 1, 2, 0, 0);
    identity(sum(60) + "=g", 1, 120, 1, 0);
    identity(sum(60) + "=10000", 1, 120, 1, 0);
    identity("((((((" + sum(54) + "+(a", 11, 114, 0, 6);
  }

  // ---- each fault

  private static void cannotStand() {
    doc.of("FAULTS, the first", "1 what can't stand there (an N of more digits, a word that is none, a LETTER beside letters: at its begin).");
    form("12345line", 1, 0, 0);
    form(" 00001line", 1, 1, 0);
    form("line from 12345 to 1", 1, 10, 0);
    form("line from -12345 to 1", 1, 11, 0);
    form("line from 1 to 12345", 1, 15, 0);
    proof("12345not;", 1, 0, 0, -1);
    proof("- 12345not;", 1, 2, 0, -1);
    proof("25=5,-00000;", 1, 6, 0, 1);
    identity("12345=a", 1, 0, 0, 0);
    identity("a^12345=a", 1, 2, 0, 0);
    form("lines", 1, 0, 0);
    form("2 lines", 1, 2, 0);
    form("line fron 1 to 2", 1, 5, 0);
    form("line from 1 too 2", 1, 12, 0);
    form("line from one to 2", 1, 10, 0);
    proof("25 nots;", 1, 3, 0, -1);
    proof("35 no;", 1, 3, 0, -1);
    proof("25=five,0;", 1, 3, 0, 0);
    identity("a+abc=a", 1, 2, 0, 0);
    identity("ab=a", 1, 0, 0, 0);
    identity("a=fa", 1, 2, 1, 0);
    identity("a*az=a", 1, 2, 0, 0);
    identity("(za=a", 1, 1, 0, 1);
    form("not", 1, 0, 0);
    form("to", 1, 0, 0);
    form("line line", 1, 5, 0);
    form("line from from 1 to 2", 1, 10, 0);
    form("line;", 1, 4, 0);
    proof("line", 1, 0, 0, -1);
    proof("25 from", 1, 3, 0, -1);
    proof("25=not;", 1, 3, 0, 0);
    proof("25=5,0+1;", 1, 6, 0, -1);
    identity("line=a", 1, 0, 0, 0);
    identity("g=a", 1, 0, 0, 0);
    identity("a=a;", 1, 3, 1, 0);
    identity("a!=a", 1, 1, 0, 0);
  }

  private static void factors() {
    doc.of("FAULTS, the first", "FORM: 2 a FACTOR that is 0, above 99 (at its N).");
    for (String zero : new String[] {"0", "00", "0000"}) {
      form(zero + "line", 2, 0, 0);
    }
    formed("1line");
    formed("99line");
    formed("0099line");
    form("100line", 2, 0, 0);
    form("9999line", 2, 0, 0);
    form("  100", 2, 2, 0);
    form("0", 2, 0, 0);
    form("line+ 0square", 2, 6, 1);
    form("line+line+line+line+ 100square", 2, 21, 4);
  }

  private static long value(int kind, long factor, long x) {
    return factor * (kind < 4 ? new long[] {x, x * x, x * x * x, x * x * x * x}[kind] : x * (x + 1) / 2);
  }

  private static boolean fits(long value) {
    return value >= -3000 && value <= 3000;
  }

  private static void ranges() {
    String line = "FAULTS, the first";
    doc.of(line, "3 a range that can't be (LOW: VALUE of it beyond 3000 either way, at its N;");
    form("line from 3001 to 3001", 3, 10, 0);
    form("line from -3001 to 0", 3, 11, 0);
    form("line from - 3001 to 0", 3, 12, 0);
    form("line from 9999 to", 3, 10, 0);
    form("square from 55 to 55", 3, 12, 0);
    form("square from -55 to 0", 3, 13, 0);
    form("cube from 15 to 15", 3, 10, 0);
    form("cube from -15 to 0", 3, 11, 0);
    form("fourth from 8 to 8", 3, 12, 0);
    form("fourth from -8 to 0", 3, 13, 0);
    form("three from 77 to 77", 3, 11, 0);
    form("three from -78 to 0", 3, 12, 0);
    form("99line from -31 to 0", 3, 13, 0);
    form("30square from -11 to 0", 3, 15, 0);
    formed("line from -3000 to -3000");
    formed("line from 3000 to 3000");
    formed("square from -54 to -54");
    formed("cube from -14 to -14");
    formed("fourth from -7 to -7");
    formed("three from -77 to -77");
    formed("99line from -30 to -30");
    formed("30square from -10 to -10");
    wrapped(true);

    doc.of(line, "HIGH: below LOW, or VALUE of it beyond, at its N).");
    form("line from 5 to 4", 3, 15, 0);
    form("line from 0 to -1", 3, 16, 0);
    form("line from -4 to - 5", 3, 18, 0);
    form("line from 5 to -5", 3, 16, 0);
    form("square from 5 to -5", 3, 18, 0);
    form("line from 5 to -9999", 3, 16, 0);
    formed("line from 5 to 5");
    formed("line from -5 to -5");
    formed("line from -1 to 0");
    form("line from 0 to 3001", 3, 15, 0);
    form("line from 0 to 9999", 3, 15, 0);
    form("square from 0 to 55", 3, 17, 0);
    form("cube from 0 to 15", 3, 15, 0);
    form("fourth from 0 to 8", 3, 17, 0);
    form("three from 0 to 77", 3, 16, 0);
    form("99line from 0 to 31", 3, 17, 0);
    form("line+30square from 0 to 11", 3, 24, 1);
    formed("line from 0 to 3000");
    formed("square from 0 to 54");
    formed("cube from 0 to 14");
    formed("fourth from 0 to 7");
    formed("three from 0 to 76");
    formed("99line from 0 to 30");
    formed("30square from 0 to 10");
    wrapped(false);
  }

  /** Values that only a number of 32 bits would take for small ones. */
  private static void wrapped(boolean asLow) {
    int found = 0;
    for (int kind = 1; kind < 5; kind++) {
      for (int factor = 1; factor <= 99; factor++) {
        for (int x = 1; x <= 9999; x++) {
          long value = value(kind, factor, x);
          if (!fits(value) && fits((int) value)) {
            String term = factor + KINDS[kind] + " from ";
            String text = asLow ? term + x + " to " + x : term + "0 to " + x;
            form(text, 3, asLow ? term.length() : term.length() + 5, 0);
            found++;
          }
        }
      }
    }
    check.due("some values wrap around", found > 20, true);
  }

  private static void sixthTerms() {
    doc.of("FAULTS, the first", "4 a 6th TERM (at its first byte).");
    formed(FIVE);
    form(FIVE + "+line", 4, 25, 5);
    form(FIVE + "+ \n line", 4, 28, 5);
    form(FIVE + "+ 7line", 4, 26, 5);
    form(FIVE + "+line from 9 to 8", 4, 25, 5);
    form(FIVE + "+line+line", 4, 25, 5);
  }

  private static void numbersOfLines() {
    String line = "FAULTS, the first";
    doc.of(line, "PROOF: 5 n beyond 3000 either way (at its N),");
    proved("3000not;-3000not;", 2);
    proof("3001not;", 5, 0, 0, -1);
    proof("-3001not;", 5, 1, 0, -1);
    proof("- \n3001not;", 5, 3, 0, -1);
    proof("9999=5,0;", 5, 0, 0, -1);
    proof("35not; -9999", 5, 8, 1, -1);

    doc.of(line, "or in a LINE ahead already (there, too).");
    proof("25=5,0;25=5,0;", 5, 7, 1, -1);
    proof("25=5,0;25=4,9;", 5, 7, 1, -1);
    proof("25=5,0;26=5,1; 25not;", 5, 15, 2, -1);
    proof("35not;35not;", 5, 6, 1, -1);
    proof("-9=0,-9;- 9=0,-9;", 5, 10, 1, -1);
    proof("0=0,0;-0=0,0;", 5, 7, 1, -1);
    proof("9=3,0;0009=3,0;", 5, 6, 1, -1);
    proof(lines(100, 59) + "100not;", 5, 413, 59, -1);
    proof(lines(100, 59) + "158not;", 5, 413, 59, -1);
    proved("9=3,0;-9=0,-9;", 2);
  }

  private static void wrongX() {
    String line = "FAULTS, the first";
    doc.of(line, "6 an x beyond the TERM's range (at its N).");
    proved("4=-2,0;34=5,9;-9=0,-9;", 3);
    proof("9=-3,0;", 6, 3, 0, 0);
    proof("36=6,0;", 6, 3, 0, 0);
    proof("0=0, - 10;", 6, 7, 0, 1);
    proof("0=0,10;", 6, 4, 0, 1);
    proof("0=9999,0;", 6, 2, 0, 0);
    proof("0=-9999,0;", 6, 3, 0, 0);
    proof("line", "3000=3001;", 6, 5, 0, 0);
    proof("line from 4 to 4+line from -7 to -7", "-3=4,-6;", 6, 6, 0, 1);

    doc.of(line, "7 one x too many (at its first byte),");
    proof("25=5,0,0;", 7, 7, 0, 2);
    proof("25=5,0, 0;", 7, 8, 0, 2);
    proof("25=5,0,-0;", 7, 7, 0, 2);
    proof("25=5,0, - 0;", 7, 8, 0, 2);
    proof("25=5,0,9999,9;", 7, 7, 0, 2);
    proof("line", "7=7,0;", 7, 4, 0, 1);
    proof(FIVE, "7=7,0,0,0,0,0;", 7, 12, 0, 5);

    doc.of(line, "too few (at the \";\").");
    proof("25=5;", 7, 4, 0, -1);
    proof("25=5 \n;", 7, 6, 0, -1);
    proof("25=-0;", 7, 5, 0, -1);
    proof(FIVE, "7=7,0,0,0;", 7, 9, 0, -1);
    proof(FIVE, "7=7;", 7, 3, 0, -1);
  }

  private static void untrueLines() {
    String line = "FAULTS, the first";
    doc.of(line, "8 the VALUES aren't n together (at the \";\", behind 7);");
    proof("25=5,1;", 8, 6, 0, -1);
    proof("25=5,-1 ;", 8, 8, 0, -1);
    proof("25=4,8;", 8, 6, 0, -1);
    proof("-25=5,0;", 8, 7, 0, -1);
    proof("100=5,0;", 8, 7, 0, -1);
    proof("25=5,0;26=5,0;", 8, 13, 1, -1);
    proof("25=5;", 7, 4, 0, -1);
    proof("26=5;", 7, 4, 0, -1);
    proof("2line+3line", "5=1,1;12=3,2;6=3,1;", 8, 18, 2, -1);
    proof("line from -3000 to 3000+line from -3000 to 3000", "0=3000,-3000;0001=3000,-3000;", 8, 28, 1, -1);

    doc.of(line, "\"not\", though there is a WAY (at \"not\").");
    proof("25not;", 8, 2, 0, -1);
    proof("25 \nnot;", 8, 4, 0, -1);
    proof("-9not;", 8, 2, 0, -1);
    proof("34not", 8, 2, 0, -1);
    proved("-10not;35not;", 2);
    proof("line from 3000 to 3000", "3000not;", 8, 4, 0, -1);
    proof("line from -3000 to -3000", "3000not;-2999not;-3000not;", 8, 22, 2, -1);
  }

  private static void sixtyFirstLines() {
    doc.of("FAULTS, the first", "9 a 61st LINE (at its first byte).");
    proved(lines(100, 60), 60);
    proof(lines(100, 61), 9, 420, 60, -1);
    proof(lines(100, 60) + " \n35not;", 9, 422, 60, -1);
    proof(lines(100, 60) + "-35not;", 9, 420, 60, -1);
    proof(lines(100, 60) + "25=5;", 9, 420, 60, -1);
    proof(lines(100, 60) + "35", 9, 420, 60, -1);
    proof(lines(100, 62), 9, 420, 60, -1);
    proved(lines(100, 60) + " ", 60);
  }

  private static void powers() {
    doc.of("FAULTS, the first", "IDENTITY: 10 an N behind \"^\" above 6 (at it).");
    for (int power = 0; power <= 6; power++) {
      equal("a^" + power + "=a^000" + power);
    }
    identity("a^7=a", 10, 2, 0, 0);
    identity("a^ 0007=a", 10, 3, 0, 0);
    identity("a^9999=a", 10, 2, 0, 0);
    identity("a=(2)^10", 10, 6, 1, 0);
    equal("7=9999");
  }

  private static void openOnes() {
    doc.of("FAULTS, the first", "11 the 7th \"(\" that is open (at it).");
    equal("((((((a))))))=b");
    identity("(((((((a)))))))=b", 11, 6, 0, 6);
    identity("a=((((( ( (a", 11, 10, 1, 6);
    equal("(a)+(a)+(a)+(a)+(a)+(a)+(a)+(a)=(a)");
    equal("((((((a))))))+((((((a))))))=((((((a))))))");
    equal("((((((a)+(b))))))=b");
    identity("((((((a)+((b", 11, 10, 0, 6);
    identity("((((((a+b*(", 11, 10, 0, 6);
  }

  private static void sixtyFirstParts() {
    doc.of("FAULTS, the first", "12 the 61st PART (at its first byte).");
    equal(sum(59) + "=a");
    equal("a=" + sum(59));
    equal(sum(30) + "=" + sum(30));
    identity(sum(60) + "=a", 12, 120, 1, 0);
    identity(sum(60) + "= \n9", 12, 122, 1, 0);
    identity(sum(60) + "=(a)", 12, 120, 1, 0);
    identity(sum(61), 12, 120, 0, 0);
    identity(sum(30) + "=" + sum(31), 12, 120, 1, 0);
    equal("(" + sum(58) + ")=a");
    identity("(" + sum(59) + ")=a", 12, 120, 1, 0);
    equal("a^6" + "*a^6".repeat(58) + "=a^6");
    identity("a^6" + "*a^6".repeat(59) + "=a^6", 12, 240, 1, 0);
    identity("1" + "*2".repeat(60), 12, 120, 0, 0);
    equal("((((((" + sum(53) + "))))))=a");
    identity("((((((" + sum(54) + "))))))=a", 12, 120, 1, 0);
  }

  // ---- what a fault lies within

  private static void withinForms() {
    String line = "WITHIN of a FAULT";
    doc.of(line, "WITHIN of a FAULT: of a FORM the TERM that is read (from 0 on: how many were read wholly;");
    String ahead = "";
    for (int term = 0; term < 5; term++) {
      int at = ahead.length();
      form(ahead, 1, at, term);
      form(ahead + "x", 1, at, term);
      form(ahead + "0line", 2, at, term);
      form(ahead + "2", 1, at + 1, term);
      form(ahead + "line from", 1, at + 9, term);
      form(ahead + "line from 3001 to 1", 3, at + 10, term);
      form(ahead + "line from 1 2", 1, at + 12, term);
      form(ahead + "line from 1 to", 1, at + 14, term);
      form(ahead + "line from 1 to 0", 3, at + 15, term);
      form(ahead + "line+", 1, at + 5, term + 1);
      ahead += "line+";
    }
    form(ahead + "line", 4, 25, 5);
    form(ahead + "x", 1, 25, 5);

    doc.of(line, "where \"+\" or the end must come, the one ahead of it);");
    ahead = "";
    for (int term = 0; term < 5; term++) {
      int at = ahead.length();
      form(ahead + "line x", 1, at + 5, term);
      form(ahead + "line 2", 1, at + 5, term);
      form(ahead + "line-", 1, at + 4, term);
      form(ahead + "line from 1 to 2 x", 1, at + 17, term);
      form(ahead + "line from 1 to 2 from", 1, at + 17, term);
      ahead += "line+";
    }
  }

  private static void withinProofs() {
    String line = "WITHIN of a FAULT";
    doc.of(line, "of a PROOF the LINE that is read (its \";\" is of it),");
    for (int count : new int[] {0, 1, 2, 58, 59}) {
      String ahead = lines(100, count);
      int at = ahead.length();
      proof(ahead + "x", 1, at, count, -1);
      proof(ahead + "3001", 5, at, count, -1);
      proof(ahead + "25", 1, at + 2, count, -1);
      proof(ahead + "25=5;", 7, at + 4, count, -1);
      proof(ahead + "25=5,1;", 8, at + 6, count, -1);
      proof(ahead + "25not;", 8, at + 2, count, -1);
      proof(ahead + "25=5,0", 1, at + 6, count, -1);
      proof(ahead + "35not", 1, at + 5, count, -1);
      proof(ahead + "25=5,0;;", 1, at + 7, count + 1, -1);
      proof(ahead + "35not;;", 1, at + 6, count + 1, -1);
    }

    doc.of(line, "and, where an x must stand or is wrong, how many x of that LINE stand ahead of it;");
    String ahead = "20=";
    for (int term = 0; term < 5; term++) {
      int at = ahead.length();
      proof(FIVE, ahead, 1, at, 0, term);
      proof(FIVE, ahead + ";", 1, at, 0, term);
      proof(FIVE, ahead + ",", 1, at, 0, term);
      proof(FIVE, ahead + "x", 1, at, 0, term);
      proof(FIVE, ahead + "-", 1, at + 1, 0, term);
      proof(FIVE, ahead + "-x", 1, at + 1, 0, term);
      proof(FIVE, ahead + "-00001", 1, at + 1, 0, term);
      proof(FIVE, ahead + "3001", 6, at, 0, term);
      proof(FIVE, ahead + "-1", 6, at + 1, 0, term);
      proof(FIVE, ahead + "1 1", 1, at + 2, 0, -1);
      proof(FIVE, ahead + "1", 1, at + 1, 0, -1);
      proof(FIVE, ahead + "1;", term < 4 ? 7 : 8, at + 1, 0, -1);
      ahead += "1,";
    }
    proof(FIVE, ahead, 1, 13, 0, 5);
    proof(FIVE, ahead + "x", 1, 13, 0, 5);
    proof(FIVE, ahead + "1", 7, 13, 0, 5);
    proof(FIVE, ahead + "-1", 7, 13, 0, 5);
    proof("7not;", 8, 1, 0, -1);
    proof("-", 1, 1, 0, -1);
    proof("25=5,0;26=5,6;3=0,-10;", 8, 13, 1, -1);
    proof("25=5,0;26=5,1;3=0,-10;", 6, 19, 2, 1);
  }

  private static void withinIdentities() {
    String line = "WITHIN of a FAULT";
    doc.of(line, "of an IDENTITY the side (0, till \"=\" was read, 1),");
    identity("", 1, 0, 0, 0);
    identity("a", 1, 1, 0, 0);
    identity("a b", 1, 2, 0, 0);
    identity("=", 1, 0, 0, 0);
    identity("a^7=", 10, 2, 0, 0);
    identity("a=", 1, 2, 1, 0);
    identity("a= ", 1, 3, 1, 0);
    identity("a==", 1, 2, 1, 0);
    identity("a=b^7", 10, 4, 1, 0);
    identity("a=b=c", 1, 3, 1, 0);
    identity("a=b c", 1, 4, 1, 0);

    doc.of(line, "and how many \"(\" are open.");
    for (int open = 0; open <= 6; open++) {
      String ahead = "(".repeat(open);
      identity(ahead + "x", 1, open, 0, open);
      identity(ahead, 1, open, 0, open);
      identity(ahead + "a^7", 10, open + 2, 0, open);
      identity(ahead + "a", 1, open + 1, 0, open);
      identity("a=" + ahead + "a b", 1, open + 4, 1, open);
      identity("a=" + ahead + "a+", 1, open + 4, 1, open);
      if (open > 0) {
        identity(ahead + "a=", 1, open + 1, 0, open);
        identity(ahead + "a)x", 1, open + 2, 0, open - 1);
        identity(ahead + "a)^7", 10, open + 3, 0, open - 1);
        identity(ahead + "a" + ")".repeat(open) + ")", 1, 2 * open + 1, 0, 0);
        identity(ahead + "a" + ")".repeat(open) + "=(b", 1, 2 * open + 4, 1, 1);
      }
    }
    identity("(a)+(a)+((b", 1, 11, 0, 2);
    identity("(((((((", 11, 6, 0, 6);
  }
}
