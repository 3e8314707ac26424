/** For each promise: ordinary inputs, the edges that the document names, wrong inputs. */
public final class PromisesTest {
  private static final int NOTHING = -100000;
  private static final int MIN = Integer.MIN_VALUE;
  private static final int MAX = Integer.MAX_VALUE;
  private static final Check check = new Check("PromisesTest");

  public static void main(String[] args) {
    newObject();
    tape();
    forms();
    formFaults();
    proofs();
    proofFaults();
    identities();
    identityFaults();
    faultsGo();
    terms();
    waysOfNumbers();
    missedNumbers();
    classes();
    manyWays();
    greedAndNearest();
    joinedForms();
    commonNumbers();
    triedIdentities();
    sides();
    shownTexts();
    gapsAndRanks();
    looks();
    edges();
    fullTapes();
    check.end();
  }

  private static void newObject() {
    ToldPowers x = new ToldPowers();
    check.due("NONE", ToldPowers.NONE, -1);
    for (int slot = -1; slot <= 4; slot++) {
      check.due("ways without terms", x.ways(slot, 0), -1);
      check.due("spell without terms", x.spell(slot), -1);
      check.due("bars without terms", x.bars(slot), -1);
      check.due("nearest without terms", x.nearest(slot, 0), NOTHING);
    }
    check.due("tried without identity", x.tried(0, 0), NOTHING);
    check.due("side without identity", x.side(0, 0, 0, 0, 0, 0, 0), Long.MIN_VALUE);
    check.text("fault of nothing", Check.fault(x), "0 -1 -1 -1");
    check.due("out of nothing", x.out(0), -1);
  }

  private static void tape() {
    ToldPowers x = new ToldPowers();
    for (int i = 1; i <= 40; i++) {
      check.due("feed " + i, x.feed(MIN, MAX, -1, 0, i), 20 * i);
    }
    check.due("feed beyond 800", x.feed(0, 0, 0, 0, 0), -1);
    check.due("none came", x.look(4), 800);
    check.due("end(801)", x.end(801), false);
    check.due("end(-1)", x.end(-1), false);
    check.due("end(MIN)", x.end(MIN), false);
    check.due("end(800)", x.end(800), true);
    check.due("end(781)", x.end(781), true);
    check.due("feed beyond 800", x.feed(0, 0, 0, 0, 0), -1);
    check.due("end(780)", x.end(780), true);
    check.due("feed to 800", x.feed(0, 0, 0, 0, 0), 800);
    check.due("end(0)", x.end(0), true);
    check.due("end(0) again", x.end(0), true);
    check.due("end(1) of none", x.end(1), false);
    check.due("look(4)", x.look(4), 0);
    // "line" and what stands behind it: the highest byte comes first
    check.due("feed", x.feed(0x6c696e65, 0x20202020, 0x0a0a0a0a, 0x20202020, 0x20202020), 20);
    check.due("form", x.form(0), 1);
    check.due("the tape is empty then", x.look(4), 0);
  }

  private static void form(String text, int count, String faults) {
    ToldPowers x = Check.with("cube+fourth");
    int got = Check.form(x, 0, text);
    check.due("form of '" + text + "'", got, count);
    check.text("fault of '" + text + "'", Check.fault(x), faults);
    check.due("the slot of '" + text + "'", x.look(0), count < 0 ? 2 : count);
    check.due("the tape of '" + text + "'", x.look(4), 0);
  }

  private static void right(String text, int count) {
    form(text, count, "0 -1 -1 -1");
  }

  private static void wrong(String text, int fault, int place, int term) {
    form(text, -1, fault + " " + place + " " + term + " -1");
  }

  private static void forms() {
    right("line", 1);
    right("square+square", 2);
    right("2cube from-1to 3 + 99 fourth from - 1 to 0+three", 3);
    right("0001line from 0000 to 3000\n+\nline", 2);
    right("line+line+line+line+line", 5);
    right("3square", 1);
    right("line from -3000 to -3000", 1);
    right("line from -0 to 0", 1);
    right("three from -77 to 76", 1);
    right("square from-54to54", 1);
    ToldPowers x = new ToldPowers();
    Check.put(x, "line");
    check.due("form(4)", x.form(4), -2);
    check.due("its tape", x.look(4), 0);
    Check.put(x, "lin");
    check.due("form(-1)", x.form(-1), -2);
    check.text("no fault then", Check.fault(x), "0 -1 -1 -1");
    check.due("form(3)", Check.form(x, 3, "line"), 1);
    check.due("look(3)", x.look(3), 1);
  }

  private static void formFaults() {
    wrong("", 1, 0, 0);
    wrong("  \n ", 1, 4, 0);
    wrong("lines", 1, 0, 0);
    wrong("Line", 1, 0, 0);
    wrong("mine", 1, 0, 0);
    wrong("fube", 1, 0, 0);
    wrong("lina", 1, 0, 0);
    wrong("line grom 1 to 2", 1, 5, 0);
    wrong("line from 1 so 2", 1, 12, 0);
    wrong("+line", 1, 0, 0);
    wrong("line +  ", 1, 8, 1);
    wrong("line line", 1, 5, 0);
    wrong("line 3", 1, 5, 0);
    wrong("line;", 1, 4, 0);
    wrong("line+2 3line", 1, 7, 1);
    wrong("line+12345line", 1, 5, 1);
    wrong("line+0line", 2, 5, 1);
    wrong("100line", 2, 0, 0);
    wrong("0", 2, 0, 0);
    wrong("99", 1, 2, 0);
    wrong("linefrom 0 to 1", 1, 0, 0);
    wrong("line from", 1, 9, 0);
    wrong("line from x", 1, 10, 0);
    wrong("line from -x", 1, 11, 0);
    wrong("line from --1", 1, 11, 0);
    wrong("line from 00001 to 2", 1, 10, 0);
    wrong("line from 1", 1, 11, 0);
    wrong("line from 1 2", 1, 12, 0);
    wrong("line from 1 from", 1, 12, 0);
    wrong("line from 3001 to", 3, 10, 0);
    wrong("line from - 3001 to", 3, 12, 0);
    wrong("square from 55 to 56", 3, 12, 0);
    wrong("square from -55 to 5", 3, 13, 0);
    wrong("cube from -15 to 5", 3, 11, 0);
    wrong("cube from 9999 to 5", 3, 10, 0);
    wrong("99fourth from 9999 to 5", 3, 14, 0);
    wrong("99fourth from -3 to 5", 3, 15, 0);
    wrong("99fourth from -2 to 3", 3, 20, 0);
    wrong("three from -78 to 0", 3, 12, 0);
    wrong("three from 0 to 77", 3, 16, 0);
    wrong("line+square from 5 to 4", 3, 22, 1);
    wrong("line from 5 to -5", 3, 16, 0);
    wrong("line from 5 to 3001", 3, 15, 0);
    wrong("line from 5 to", 1, 14, 0);
    wrong("line from 5 to 6 7", 1, 17, 0);
    wrong("line from 5 to 6 from 7 to 8", 1, 17, 0);
    String five = "line+line+line+line+line";
    wrong(five + "+line", 4, 25, 5);
    wrong(five + "+ 7line", 4, 26, 5);
    wrong(five + "+7lin", 4, 25, 5);
    wrong(five + "+lin", 1, 25, 5);
    wrong(five + "+", 1, 25, 5);
    wrong(five + "+from", 1, 25, 5);
    wrong(five + "+0line", 2, 25, 5);
    wrong(five + "+100", 2, 25, 5);
    wrong(five + "+12345", 1, 25, 5);
    wrong(five + " x", 1, 25, 4);
    wrong("line" + (char) 233, 1, 4, 0);
    wrong("line" + (char) 0, 1, 4, 0);
    wrong("line\t", 1, 4, 0);
  }

  private static void proof(String text, int lines, String faults) {
    ToldPowers x = Check.with("square from -2 to 5+line from -9 to 9");
    check.due("prove of '" + text + "'", Check.prove(x, 0, text), lines);
    check.text("fault of '" + text + "'", Check.fault(x), faults);
    check.due("the tape of '" + text + "'", x.look(4), 0);
  }

  private static void proved(String text, int lines) {
    proof(text, lines, "0 -1 -1 -1");
  }

  private static void unproved(String text, int fault, int place, int line, int term) {
    proof(text, -1, fault + " " + place + " " + line + " " + term);
  }

  private static String lines(int from, int to) {
    StringBuilder text = new StringBuilder();
    for (int n = from; n <= to; n++) {
      text.append(n).append("not;");
    }
    return text.toString();
  }

  private static void proofs() {
    proved("", 0);
    proved(" \n", 0);
    proved("25=5,0;", 1);
    proved("25=4,9;35not;-9=0,-9;-10 not;", 4);
    proved(" - 5 = - 2 , - 9 ; 4=2,0;", 2);
    proved("3000not;-3000not;", 2);
    proved("-0=0,-0;", 1);
    proved(lines(100, 159), 60);
    ToldPowers x = Check.with("line");
    Check.put(x, "1=2;");
    check.due("prove(1)", x.prove(1), -2);
    check.due("its tape", x.look(4), 0);
    check.text("no fault then", Check.fault(x), "0 -1 -1 -1");
    check.due("prove(4)", x.prove(4), -2);
    check.due("prove(-1)", x.prove(-1), -2);
  }

  private static void proofFaults() {
    unproved("x", 1, 0, 0, -1);
    unproved(";", 1, 0, 0, -1);
    unproved("25=5,0;=", 1, 7, 1, -1);
    unproved("25", 1, 2, 0, -1);
    unproved("25 ", 1, 3, 0, -1);
    unproved("25;", 1, 2, 0, -1);
    unproved("25nott;", 1, 2, 0, -1);
    unproved("35bot;", 1, 2, 0, -1);
    unproved("--25=5,0;", 1, 1, 0, -1);
    unproved("-", 1, 1, 0, -1);
    unproved("00025=5,0;", 1, 0, 0, -1);
    unproved("3001not;", 5, 0, 0, -1);
    unproved("- 3001not;", 5, 2, 0, -1);
    unproved("25=5,0; 025=5,0;", 5, 8, 1, -1);
    unproved("0=0,0;-0=0,0;", 5, 7, 1, -1);
    unproved("35not;35not;", 5, 6, 1, -1);
    unproved("25=", 1, 3, 0, 0);
    unproved("25=;", 1, 3, 0, 0);
    unproved("25=-;", 1, 4, 0, 0);
    unproved("25=not;", 1, 3, 0, 0);
    unproved("25=12345,0;", 1, 3, 0, 0);
    unproved("25=5,", 1, 5, 0, 1);
    unproved("25=5,-", 1, 6, 0, 1);
    unproved("25=5 0;", 1, 5, 0, -1);
    unproved("25=5,0", 1, 6, 0, -1);
    unproved("25=5,0 not", 1, 7, 0, -1);
    unproved("25=6,0;", 6, 3, 0, 0);
    unproved("25=-3,0;", 6, 4, 0, 0);
    unproved("25=5,- 10;", 6, 7, 0, 1);
    unproved("25=5,10", 6, 5, 0, 1);
    unproved("25=5;", 7, 4, 0, -1);
    unproved("35not;25=4;", 7, 10, 1, -1);
    unproved("25=5,0,0;", 7, 7, 0, 2);
    unproved("25=5,0, -0;", 7, 8, 0, 2);
    unproved("25=5,0,-x;", 7, 7, 0, 2);
    unproved("25=5,0,;", 1, 7, 0, 2);
    unproved("25=5,0,00000;", 1, 7, 0, 2);
    unproved("25=5,0,x;", 1, 7, 0, 2);
    unproved("25=5,1;", 8, 6, 0, -1);
    unproved("25=4,9;35=5,9;", 8, 13, 1, -1);
    unproved("25 not;", 8, 3, 0, -1);
    unproved("25 not", 8, 3, 0, -1);
    unproved("35 not", 1, 6, 0, -1);
    unproved("35 not not;", 1, 7, 0, -1);
    unproved(lines(100, 160), 9, 420, 60, -1);
    unproved(lines(100, 159) + "-1=0,-1;", 9, 420, 60, -1);
    unproved(lines(100, 159) + " -x", 9, 421, 60, -1);
    unproved(lines(100, 159) + "3001", 5, 420, 60, -1);
    unproved(lines(100, 159) + "100", 5, 420, 60, -1);
    unproved(lines(100, 159) + "00001", 1, 420, 60, -1);
    unproved(lines(100, 159) + ";", 1, 420, 60, -1);
    unproved(lines(100, 159) + "-3001", 9, 420, 60, -1);
  }

  private static void identity(String text, int letters, String faults) {
    ToldPowers x = new ToldPowers();
    check.due("identity of 'f=f*2^1'", Check.identity(x, "f=f*2^1"), 1);
    check.due("identity of '" + text + "'", Check.identity(x, text), letters);
    check.text("fault of '" + text + "'", Check.fault(x), faults);
    check.due("the tape of '" + text + "'", x.look(4), 0);
    if (letters < 0) {
      check.due("the letters stay", x.look(5), 32);
      check.due("the parts stay", x.look(6), 3);
      check.due("the sides stay", x.side(1, 0, 0, 0, 0, 0, 5), 10);
    } else {
      check.due("bits of '" + text + "'", Integer.bitCount(x.look(5)), letters);
    }
  }

  private static void equal(String text, int letters) {
    identity(text, letters, "0 -1 -1 -1");
  }

  private static void unequal(String text, int fault, int place, int side, int open) {
    identity(text, -1, fault + " " + place + " " + side + " " + open);
  }

  private static String sum(String part, int times) {
    StringBuilder text = new StringBuilder(part);
    for (int i = 1; i < times; i++) {
      text.append('+').append(part);
    }
    return text.toString();
  }

  private static void identities() {
    equal("1=1", 0);
    equal("a=a", 1);
    equal("(a+b)^2 = a^2+2*a*b+b^2", 2);
    equal("a*b*c*d*e*f=f*e*d*c*b*a", 6);
    equal("((((((a))))))=9999", 1);
    equal("a^0=a^6", 1);
    equal("(a)*((b))^3-c^0002=0", 3);
    equal(sum("a", 59) + "=b", 2);
    equal("(((" + sum("a", 56) + ")))=b", 2);
  }

  private static void identityFaults() {
    unequal("", 1, 0, 0, 0);
    unequal("a", 1, 1, 0, 0);
    unequal("a=", 1, 2, 1, 0);
    unequal("=a", 1, 0, 0, 0);
    unequal("-a=a", 1, 0, 0, 0);
    unequal("a=b=c", 1, 3, 1, 0);
    unequal("a+(b=c)", 1, 4, 0, 1);
    unequal("a)=b", 1, 1, 0, 0);
    unequal("a=(b+((c)", 1, 9, 1, 2);
    unequal("a=((b)))", 1, 7, 1, 0);
    unequal("()=a", 1, 1, 0, 1);
    unequal("ab=a", 1, 0, 0, 0);
    unequal("az=a", 1, 0, 0, 0);
    unequal("a=za", 1, 2, 1, 0);
    unequal("a*xa=a", 1, 2, 0, 0);
    unequal("g=a", 1, 0, 0, 0);
    unequal("A=a", 1, 0, 0, 0);
    unequal("aB=a", 1, 1, 0, 0);
    unequal("2a=a", 1, 1, 0, 0);
    unequal("a2=a", 1, 1, 0, 0);
    unequal("a a=a", 1, 2, 0, 0);
    unequal("12345=a", 1, 0, 0, 0);
    unequal("a**b=a", 1, 2, 0, 0);
    unequal("a^b=a", 1, 2, 0, 0);
    unequal("a^(2)=a", 1, 2, 0, 0);
    unequal("a^-2=a", 1, 2, 0, 0);
    unequal("a^2^2=a", 1, 3, 0, 0);
    unequal("a^7=a", 10, 2, 0, 0);
    unequal("(a^ 9999", 10, 4, 0, 1);
    unequal("a^00007=a", 1, 2, 0, 0);
    unequal("a+", 1, 2, 0, 0);
    unequal("(((((((a)))))))=a", 11, 6, 0, 6);
    unequal("a=b*((((((x", 1, 10, 1, 6);
    unequal("a=b*((((((c+(", 11, 12, 1, 6);
    unequal(sum("a", 60) + "=b", 12, 120, 1, 0);
    unequal(sum("a", 60) + "= 7", 12, 121, 1, 0);
    unequal(sum("a", 60) + "=(b)", 12, 120, 1, 0);
    unequal(sum("a", 60) + "=bb", 1, 120, 1, 0);
    unequal(sum("a", 60) + "=00001", 1, 120, 1, 0);
    unequal("(((((" + sum("a", 55) + "+b", 12, 115, 0, 5);
    unequal("((((((" + sum("a", 54) + "+(b", 11, 114, 0, 6);
    unequal("((((((" + sum("a", 54) + "+b", 12, 114, 0, 6);
    unequal("a=a" + (char) 200, 1, 3, 1, 0);
  }

  private static void faultsGo() {
    ToldPowers x = Check.with("line");
    Check.identity(x, "((a");
    check.text("a fault of an identity", Check.fault(x), "1 3 0 2");
    check.due("fault(4)", x.fault(4), -1);
    check.due("fault(-1)", x.fault(-1), -1);
    Check.put(x, "1");
    check.text("other calls leave it", Check.fault(x), "1 3 0 2");
    check.due("form(9)", x.form(9), -2);
    check.text("it is gone", Check.fault(x), "0 -1 -1 -1");
    Check.form(x, 0, "line+");
    check.text("a fault of a form", Check.fault(x), "1 5 1 -1");
    Check.prove(x, 0, "4=4;");
    check.text("none of a proof", Check.fault(x), "0 -1 -1 -1");
    Check.prove(x, 0, "4=4,4;");
    check.text("a fault of a proof", Check.fault(x), "7 4 0 1");
    Check.prove(x, 1, "4=4,4;");
    check.text("no terms", Check.fault(x), "0 -1 -1 -1");
  }

  private static void term(ToldPowers x, int slot, int i, int factor, int kind, int low, int high) {
    int[] due = {factor, kind, low, high};
    for (int what = 0; what < 4; what++) {
      check.due("term(" + slot + ", " + i + ", " + what + ")", x.term(slot, i, what), due[what]);
    }
  }

  private static void terms() {
    ToldPowers x = Check.with("line+square+cube+fourth+three", "99line+99square+99cube+99fourth+99three",
        "7three from -29 to 3+2fourth from-6 to-6");
    term(x, 0, 0, 1, 0, 0, 3000);
    term(x, 0, 1, 1, 1, 0, 54);
    term(x, 0, 2, 1, 2, 0, 14);
    term(x, 0, 3, 1, 3, 0, 7);
    term(x, 0, 4, 1, 4, 0, 76);
    term(x, 1, 0, 99, 0, 0, 30);
    term(x, 1, 1, 99, 1, 0, 5);
    term(x, 1, 2, 99, 2, 0, 3);
    term(x, 1, 3, 99, 3, 0, 2);
    term(x, 1, 4, 99, 4, 0, 7);
    term(x, 2, 0, 7, 4, -29, 3);
    term(x, 2, 1, 2, 3, -6, -6);
    check.due("term(2, 2, 0)", x.term(2, 2, 0), NOTHING);
    check.due("term(2, -1, 0)", x.term(2, -1, 0), NOTHING);
    check.due("term(2, 0, 4)", x.term(2, 0, 4), NOTHING);
    check.due("term(2, 0, -1)", x.term(2, 0, -1), NOTHING);
    check.due("term(3, 0, 0)", x.term(3, 0, 0), NOTHING);
    check.due("term(4, 0, 0)", x.term(4, 0, 0), NOTHING);
    check.due("term(-1, 0, 0)", x.term(-1, 0, 0), NOTHING);
  }

  private static void waysOfNumbers() {
    ToldPowers x = Check.with("square from -5 to 5+square from -5 to 5", "line+line+line+line+line",
        "line from -3000 to 3000+line from -3000 to 3000", "three from -3 to 2+2three from -3 to 2");
    check.due("ways(0, 25)", x.ways(0, 25), 12);
    check.due("unlike(0, 25)", x.unlike(0, 25), 6);
    check.due("ways(0, 50)", x.ways(0, 50), 4);
    check.due("unlike(0, 50)", x.unlike(0, 50), 3);
    check.due("ways(0, 51)", x.ways(0, 51), 0);
    check.due("ways(0, -3000)", x.ways(0, -3000), 0);
    check.due("ways(0, -3001)", x.ways(0, -3001), -1);
    check.due("unlike(0, 3001)", x.unlike(0, 3001), -1);
    check.due("ways(0, MIN)", x.ways(0, MIN), -1);
    check.due("ways(1, 3000)", x.ways(1, 3000), 3004L * 3003 * 3002 * 3001 / 24);
    check.due("unlike(1, 6)", x.unlike(1, 6), 10);
    check.due("ways(2, 0)", x.ways(2, 0), 6001);
    check.due("unlike(2, 0)", x.unlike(2, 0), 3001);
    check.due("unlike(2, 1)", x.unlike(2, 1), 3000);
    check.due("ways(3, 0)", x.ways(3, 0), 4);
    check.due("unlike(3, 0)", x.unlike(3, 0), 4);
    int[][] due = {{-5, 0}, {-4, -3}, {-4, 3}, {-3, -4}, {-3, 4}, {0, -5}, {0, 5}, {3, -4}, {3, 4}, {4, -3}, {4, 3}, {5, 0}};
    for (int k = 0; k < due.length; k++) {
      check.due("way " + k + " of 25, x 0", x.way(0, 25, k, 0), due[k][0]);
      check.due("way " + k + " of 25, x 1", x.way(0, 25, k, 1), due[k][1]);
      check.due("number of way " + k, x.number(0, 25, due[k][0], due[k][1], MIN, MAX, 7), k);
    }
    check.due("way 12", x.way(0, 25, 12, 0), NOTHING);
    check.due("way -1", x.way(0, 25, -1, 0), NOTHING);
    check.due("way of a long k", x.way(0, 25, 1L << 32, 0), NOTHING);
    check.due("way of no term", x.way(0, 25, 0, 2), NOTHING);
    check.due("way of no term", x.way(0, 25, 0, -1), NOTHING);
    check.due("way of no slot", x.way(4, 25, 0, 0), NOTHING);
    check.due("way of no n", x.way(0, 3001, 0, 0), NOTHING);
    check.due("way of a missed n", x.way(0, 51, 0, 0), NOTHING);
    check.due("number of no way", x.number(0, 25, 5, 1, 0, 0, 0), -1);
    check.due("number beyond the range", x.number(0, 36, 6, 0, 0, 0, 0), -1);
    check.due("number of MIN", x.number(0, 25, MIN, MIN, 0, 0, 0), -1);
    check.due("number of no slot", x.number(-1, 25, 5, 0, 0, 0, 0), -1);
    check.due("number of no n", x.number(0, 3001, 5, 0, 0, 0, 0), -1);
    long last = 3004L * 3003 * 3002 * 3001 / 24 - 1;
    check.due("the last way", x.way(1, 3000, last, 0), 3000);
    check.due("the last number", x.number(1, 3000, 3000, 0, 0, 0, 0), last);
    check.due("the one ahead of it", x.way(1, 3000, last - 1, 1), 1);
    check.due("way behind the last", x.way(1, 3000, last + 1, 0), NOTHING);
  }

  private static void missedNumbers() {
    ToldPowers x = Check.with("square+square+square+square", "square+square+square", "2line", "line from 3000 to 3000+line from 5 to 6");
    check.due("four squares", x.missed(0, 0, 3000, -1), 0);
    check.due("below 0", x.missed(0, -3000, 3000, -1), 3000);
    check.due("the i-th", x.missed(0, -3000, 3000, 2999), -1);
    check.due("behind the last", x.missed(0, -3000, 3000, 3000), NOTHING);
    check.due("missed i -2", x.missed(0, 0, 3000, -2), NOTHING);
    check.due("missed below", x.missed(0, 1, 0, -1), NOTHING);
    check.due("missed 3001", x.missed(0, 0, 3001, -1), NOTHING);
    check.due("missed -3001", x.missed(0, -3001, 0, -1), NOTHING);
    check.due("missed, no slot", x.missed(4, 0, 1, -1), NOTHING);
    check.due("three squares", x.missed(1, 0, 60, -1), 9);
    check.due("three squares", x.missed(1, 0, 60, 3), 28);
    check.due("one number", x.missed(1, 7, 7, 0), 7);
    check.due("explained by 8", x.explained(1, 0, 60, 8), 7);
    check.due("explained by 4", x.explained(1, 0, 60, 4), 0);
    check.due("explained below 0", x.explained(2, -7, -1, 2), 4);
    check.due("explained, none is missed", x.explained(0, 0, 9, 8), 0);
    check.due("explained by 0", x.explained(1, 0, 60, 0), -1);
    check.due("explained by 61", x.explained(1, 0, 60, 61), -1);
    check.due("explained by 60", x.explained(2, 0, 60, 60), 30);
    check.due("explained below", x.explained(1, 5, 4, 8), -1);
    check.due("explained, no slot", x.explained(-1, 0, 4, 8), -1);
    check.due("full of four squares", x.full(0), 0);
    check.due("full of three squares", x.full(1), 3000);
    check.due("full of evens", x.full(2), 3000);
    check.due("full of none", x.full(3), -1);
    check.due("full of no slot", x.full(4), -1);
    check.due("full of no slot", x.full(MIN), -1);
    ToldPowers y = Check.with("line from 7 to 3000", "2line from 0 to 1499+line from 0 to 1", "line from -5 to 3000");
    check.due("full from 7 on", y.full(0), 7);
    check.due("full: 3000 is missed", y.full(1), -1);
    check.due("full from below 0", y.full(2), 0);
  }

  private static void classes() {
    ToldPowers x = Check.with("three", "square+2square", "line from 2 to 2+99fourth from 0 to 0", "3three from 5 to 5");
    check.due("met(0, 1, 0)", x.met(0, 1, 0), 2);
    check.due("met(0, 2, 0)", x.met(0, 2, 0), 2);
    check.due("met(0, 2, 1)", x.met(0, 2, 1), 2);
    check.due("met(0, 3, 0)", x.met(0, 3, 0), 4);
    check.due("met(0, 3, 1)", x.met(0, 3, 1), 2);
    check.due("met(0, 3, 2)", x.met(0, 3, 2), 0);
    check.due("met(0, 3, 3)", x.met(0, 3, 3), -1);
    check.due("met(0, 3, -1)", x.met(0, 3, -1), -1);
    check.due("met(0, 0, 0)", x.met(0, 0, 0), -1);
    check.due("met(0, 61, 0)", x.met(0, 61, 0), -1);
    check.due("met(4, 3, 0)", x.met(4, 3, 0), -1);
    check.due("meets(0, 60, 45, 0)", x.meets(0, 60, 45, 0), 9);
    check.due("meets(1, 8, 3, 0)", x.meets(1, 8, 3, 0), 1);
    check.due("meets(1, 8, 3, 1)", x.meets(1, 8, 3, 1), 1);
    check.due("meets(1, 8, 3, 2)", x.meets(1, 8, 3, 2), -1);
    check.due("meets(1, 8, 3, -1)", x.meets(1, 8, 3, -1), -1);
    check.due("meets(1, 8, 5, 0)", x.meets(1, 8, 5, 0), -1);
    check.due("meets(1, 8, 8, 0)", x.meets(1, 8, 8, 0), -1);
    check.due("meets(4, 8, 0, 0)", x.meets(4, 8, 0, 0), -1);
    check.due("never(1, 8, -1)", x.never(1, 8, -1), 2);
    check.due("never(1, 8, 0)", x.never(1, 8, 0), 5);
    check.due("never(1, 8, 1)", x.never(1, 8, 1), 7);
    check.due("never(1, 8, 2)", x.never(1, 8, 2), -1);
    check.due("never(1, 8, -2)", x.never(1, 8, -2), -1);
    check.due("never(1, 1, -1)", x.never(1, 1, -1), 0);
    check.due("never(1, 0, -1)", x.never(1, 0, -1), -1);
    check.due("never(1, 61, -1)", x.never(1, 61, -1), -1);
    check.due("never(-1, 2, -1)", x.never(-1, 2, -1), -1);
    check.due("bars(0)", x.bars(0), 3);
    check.due("bars(1)", x.bars(1), 5 + 3);
    check.due("bars(2)", x.bars(2), -1);
    check.due("bars(3)", x.bars(3), 3);
    check.due("bars(4)", x.bars(4), -1);
  }

  private static void manyWays() {
    ToldPowers x = Check.with("cube+cube", "square+square", "line+line+line+line+line", "line from -3 to 3+line from -3 to 3");
    check.due("the taxi's number", x.many(0, 1, 2, false), 1729);
    check.due("just one", x.many(0, 1, 1, true), 1);
    check.due("from -3000 on", x.many(0, -3000, 1, true), 0);
    check.due("none behind", x.many(0, 1730, 2, true), NOTHING);
    check.due("three ways", x.many(1, 0, 3, false), 325);
    check.due("just three", x.many(1, 326, 3, true), 425);
    check.due("k 0", x.many(1, 0, 0, true), NOTHING);
    check.due("k 1000001", x.many(2, 0, 1000001, false), NOTHING);
    check.due("from 3001", x.many(1, 3001, 1, false), NOTHING);
    check.due("from -3001", x.many(1, -3001, 1, false), NOTHING);
    check.due("no slot", x.many(4, 0, 1, false), NOTHING);
    check.due("below 0", x.many(3, -3000, 3, false), -2);
    check.due("just four", x.many(3, -3000, 4, true), 0);
    long[] parts = partitionsOfFive();
    int first = 0;
    while (parts[first] < 1000000) {
      first++;
    }
    check.due("a million", x.many(2, 0, 1000000, false), first);
    check.due("just as many", x.many(2, 0, (int) parts[77], true), 77);
    check.due("partitions", x.unlike(2, 3000), parts[3000]);
  }

  private static long[] partitionsOfFive() {
    long[] counts = new long[3001];
    counts[0] = 1;
    for (int part = 1; part <= 5; part++) {
      for (int n = part; n <= 3000; n++) {
        counts[n] += counts[n - part];
      }
    }
    return counts;
  }

  private static void greedAndNearest() {
    ToldPowers x = Check.with("square from -9 to 9+three from -3 to 9", "line from 3000 to 3000+line from 2000 to 3000",
        "cube from -5 to -2+line from -7 to -7", "2line from -3 to 3+line from 0 to 1");
    check.due("greed(0, 50, 0)", x.greed(0, 50, 0), -7);
    check.due("greed(0, 50, 1)", x.greed(0, 50, 1), -2);
    check.due("greed(0, 50, -1)", x.greed(0, 50, -1), 0);
    check.due("greed(0, -2, 0)", x.greed(0, -2, 0), 0);
    check.due("greed(0, -2, 1)", x.greed(0, -2, 1), -1);
    check.due("greed(0, -2, -1)", x.greed(0, -2, -1), -2);
    check.due("greed(1, 3000, -1)", x.greed(1, 3000, -1), -2000);
    check.due("greed(1, -3000, -1)", x.greed(1, -3000, -1), -8000);
    check.due("greed(2, -30, 0)", x.greed(2, -30, 0), -4);
    check.due("greed(2, -30, 1)", x.greed(2, -30, 1), -7);
    check.due("greed(2, -30, -1)", x.greed(2, -30, -1), 41);
    check.due("greed(2, -3000, 0)", x.greed(2, -3000, 0), -5);
    check.due("greed(2, 1, 2)", x.greed(2, 1, 2), NOTHING);
    check.due("greed(2, 1, -2)", x.greed(2, 1, -2), NOTHING);
    check.due("greed(2, 3001, 0)", x.greed(2, 3001, 0), NOTHING);
    check.due("greed(4, 1, 0)", x.greed(4, 1, 0), NOTHING);
    check.due("nearest beyond 3000", x.nearest(1, -3000), 5000);
    check.due("nearest, the greater is nearer", x.nearest(2, -24), -15);
    check.due("nearest, the lesser is nearer", x.nearest(2, -25), -34);
    check.due("nearest of two", x.nearest(0, 107), 109);
    check.due("nearest of one itself", x.nearest(3, -5), -5);
    check.due("nearest below", x.nearest(3, -3000), -6);
    check.due("nearest above", x.nearest(3, 3000), 7);
    check.due("nearest(0, 3001)", x.nearest(0, 3001), NOTHING);
    check.due("nearest(0, -3001)", x.nearest(0, -3001), NOTHING);
    check.due("nearest(4, 0)", x.nearest(4, 0), NOTHING);
    ToldPowers y = Check.with("square+square+square+square", "square from 1 to 9+three from 1 to 9", "line from -3000 to -3000+line from -3000 to -2999");
    check.due("enough(0, 0)", y.enough(0, 0), 1);
    check.due("enough(0, 49)", y.enough(0, 49), 1);
    check.due("enough(0, 50)", y.enough(0, 50), 2);
    check.due("enough(0, 6)", y.enough(0, 6), 3);
    check.due("enough(0, 7)", y.enough(0, 7), 4);
    check.due("enough(0, -7)", y.enough(0, -7), -1);
    check.due("enough(0, 3001)", y.enough(0, 3001), -1);
    check.due("enough(4, 0)", y.enough(4, 0), -1);
    check.due("enough(1, 0)", y.enough(1, 0), -1);
    check.due("enough(1, 4)", y.enough(1, 4), 1);
    check.due("enough(1, 2)", y.enough(1, 2), 2);
    check.due("nearest of -6000 and -5999", y.nearest(2, 0), -5999);
    ToldPowers z = Check.with("2line from -1500 to 1500", "line from -3000 to -3000+6line from 100 to 500");
    check.due("nearest, of two the lesser", z.nearest(0, 7), 6);
    check.due("nearest, of two the lesser", z.nearest(0, -7), -8);
    check.due("nearest, of two the lesser", z.nearest(1, -2391), -2394);
  }

  private static void spelled(ToldPowers x, int slot, String text) {
    check.due("spell(" + slot + ")", x.spell(slot), text.isEmpty() ? -1 : text.length());
    if (!text.isEmpty()) {
      check.text("spelled " + slot, Check.shown(x), text);
    }
  }

  private static void joinedForms() {
    ToldPowers x = Check.with("line+cube", "2square");
    check.due("join to 3", x.join(0, 1, 2), true);
    spelled(x, 2, "line+cube+2square");
    check.due("join the other way", x.join(1, 0, 1), true);
    spelled(x, 1, "2square+line+cube");
    check.due("join to 6", x.join(1, 2, 3), false);
    check.due("join with itself", x.join(0, 0, 0), true);
    spelled(x, 0, "line+cube+line+cube");
    check.due("join with none", x.join(3, 1, 3), true);
    spelled(x, 3, "2square+line+cube");
    check.due("join of no slot", x.join(4, 0, 0), false);
    check.due("join of no slot", x.join(0, -1, 0), false);
    check.due("join into no slot", x.join(1, 1, 4), false);
    check.due("unlike before", x.unlike(0, 2), 4);
    check.due("lead(0, 2)", x.lead(0, 3), true);
    spelled(x, 0, "cube+line+cube+line");
    check.due("enough then", x.enough(0, 8), 1);
    check.due("lead(0, 0)", x.lead(0, 0), true);
    check.due("lead(0, 4)", x.lead(0, 4), false);
    check.due("lead(0, -1)", x.lead(0, -1), false);
    check.due("lead(4, 0)", x.lead(4, 0), false);
    spelled(x, 0, "cube+line+cube+line");
    check.due("drop(0, 1)", x.drop(0, 1), true);
    spelled(x, 0, "cube+cube+line");
    check.due("ways then", x.ways(0, 1), 3);
    check.due("drop(0, 3)", x.drop(0, 3), false);
    check.due("drop(0, -1)", x.drop(0, -1), false);
    check.due("drop(-1, 0)", x.drop(-1, 0), false);
    check.due("drop(0, 2)", x.drop(0, 2), true);
    check.due("ways then", x.ways(0, 3), 0);
    check.due("drop(0, 0)", x.drop(0, 0), true);
    check.due("drop(0, 0)", x.drop(0, 0), true);
    check.due("no terms then", x.look(0), 0);
    check.due("ways then", x.ways(0, 3), -1);
    check.due("drop of none", x.drop(0, 0), false);
    spelled(x, 0, "");
    ToldPowers y = Check.with("line+line+line", "line+line+line", "line+line");
    check.due("none of both", new ToldPowers().join(0, 1, 2), false);
    check.due("6 terms", y.join(0, 1, 3), false);
    check.due("5 terms", y.join(0, 2, 3), true);
    check.due("ways of 5", y.ways(3, 2), 15);
  }

  private static void commonNumbers() {
    ToldPowers x = Check.with("square", "three", "cube from -14 to 14");
    check.due("common", x.common(0, 1, 0, 3000, -1), 4);
    check.due("common 0", x.common(0, 1, 0, 3000, 0), 0);
    check.due("common 1", x.common(0, 1, 0, 3000, 1), 1);
    check.due("common 2", x.common(1, 0, 0, 3000, 2), 36);
    check.due("common 3", x.common(0, 1, 0, 3000, 3), 1225);
    check.due("common 4", x.common(0, 1, 0, 3000, 4), NOTHING);
    check.due("common -2", x.common(0, 1, 0, 3000, -2), NOTHING);
    check.due("common with itself", x.common(2, 2, -3000, 3000, 0), -2744);
    check.due("common of none", x.common(0, 1, -9, -1, -1), 0);
    check.due("common below", x.common(0, 1, 9, 8, -1), NOTHING);
    check.due("common beyond", x.common(0, 1, 0, 3001, -1), NOTHING);
    check.due("common beyond", x.common(0, 1, -3001, 0, -1), NOTHING);
    check.due("common, no terms", x.common(0, 3, 0, 9, -1), NOTHING);
    check.due("common, no terms", x.common(3, 0, 0, 9, -1), NOTHING);
    check.due("common, no slot", x.common(0, 4, 0, 9, -1), NOTHING);
    check.due("common, no slot", x.common(-1, 0, 0, 9, -1), NOTHING);
  }

  private static void tried(String text, int b, int... due) {
    ToldPowers x = new ToldPowers();
    Check.identity(x, text);
    for (int what = 0; what < 8; what++) {
      int want = what < due.length ? due[what] : NOTHING;
      check.due("tried(" + b + ", " + what + ") of " + text, x.tried(b, what), want);
      check.due("tried again", x.tried(b, what), want);
    }
  }

  private static void triedIdentities() {
    for (int b = 0; b <= 3; b++) {
      tried("(a+b)^2=a^2+2*a*b+b^2", b, 0);
      tried("(a^2+b^2)*(c^2+d^2)=(a*c-b*d)^2+(a*d+b*c)^2", b, 0);
    }
    tried("a=b", 1, 6, -1, 0, 0, 0, 0, 0, 0);
    tried("b=f", 2, 20, 0, -2, 0, 0, 0, -1, 0);
    tried("a*c=c", 1, 4, -1, 0, -1, 0, 0, 0, 0);
    tried("1=2", 3, 1, 0, 0, 0, 0, 0, 0, 0);
    tried("1=2", 0, 1, 0, 0, 0, 0, 0, 0, 0);
    tried("a=a+0*9999^6", 0, 1, 0, 0, 0, 0, 0, 0, 1);
    tried("a*(9999^4)^a=0", 0);
    tried("a^0=1", 3, 0);
    tried("0^0=1", 0, 0);
    tried("e*9999^4*9999=e*9999^4*9999", 2, 4, 0, 0, 0, 0, -2, 0, 1);
    tried("(a-b)-c=a-(b-c)", 1, 18, -1, -1, -1, 0, 0, 0, 0);
    ToldPowers x = new ToldPowers();
    Check.identity(x, "a=b");
    check.due("tried(4, 0)", x.tried(4, 0), NOTHING);
    check.due("tried(-1, 0)", x.tried(-1, 0), NOTHING);
    check.due("tried(1, 8)", x.tried(1, 8), NOTHING);
    check.due("tried(1, -1)", x.tried(1, -1), NOTHING);
    check.due("tried(0, 0)", x.tried(0, 0), 0);
    check.due("tried(0, 1)", x.tried(0, 1), NOTHING);
    check.due("tried(3, 0)", x.tried(3, 0), 42);
    Check.identity(x, "a=");
    check.due("it stays", x.tried(3, 0), 42);
    Check.identity(x, "a=a");
    check.due("another one", x.tried(3, 0), 0);
    Check.identity(x, "a+b+c+d+e+f=f");
    check.due("six letters", x.tried(3, 0), 117649 - 7 * 1451);
  }

  private static void sides() {
    ToldPowers x = new ToldPowers();
    Check.identity(x, "2*a^3-b*(c+d)=e-f-9");
    check.due("side 0", x.side(0, 2, 3, 4, 5, 0, 0), 16 - 27);
    check.due("side 1", x.side(1, 2, 3, 4, 5, -9, 9), -27);
    check.due("side 2", x.side(2, 0, 0, 0, 0, 0, 0), Long.MIN_VALUE);
    check.due("side -1", x.side(-1, 0, 0, 0, 0, 0, 0), Long.MIN_VALUE);
    for (int letter = 0; letter < 6; letter++) {
      for (int value = -10; value <= 10; value += 20) {
        int[] v = new int[6];
        v[letter] = value;
        check.due("letter beyond", x.side(0, v[0], v[1], v[2], v[3], v[4], v[5]), Long.MIN_VALUE);
      }
    }
    Check.identity(x, "9999^4*922*a=(a-9999^4*922)*9999");
    check.due("within longs", x.side(0, 1, 0, 0, 0, 0, 0), 922L * 9999 * 9999 * 9999 * 9999);
    check.due("beyond longs", x.side(0, 9, 0, 0, 0, 0, 0), x.side(1, 9, 0, 0, 0, 0, 0));
    check.due("beyond longs", x.side(1, 0, 0, 0, 0, 0, 0), Long.MIN_VALUE);
    Check.identity(x, "0*9999^5=(0-2)^6*8^5*8^6*8^6*a");
    check.due("met on the way", x.side(0, 0, 0, 0, 0, 0, 0), Long.MIN_VALUE);
    check.due("2 to the 57 by 8", x.side(1, 8, 0, 0, 0, 0, 0), 1L << 60);
    Check.identity(x, "2^6*8^5*8^6*8^6*a*4=8^6*8^6*8^6*8*(a-9)*b");
    check.due("2 to the 59 by -8", x.side(0, -8, 0, 0, 0, 0, 0), -1L << 62);
    check.due("2 to the 57 by -8 by 9", x.side(1, 1, 9, 0, 0, 0, 0), Long.MIN_VALUE);
    check.due("-2 to the 60", x.side(1, 8, 1, 0, 0, 0, 0), -1L << 57);
    Check.identity(x, "8^6*8^6*8^6*8*8*8*a=(8^6*8^6*8^6*8*8*8-1+8^6*8^6*8^6*8*8*8)*a");
    check.due("2 to the 63", x.side(0, 1, 0, 0, 0, 0, 0), Long.MIN_VALUE);
    check.due("and back", x.side(1, 1, 0, 0, 0, 0, 0), Long.MIN_VALUE);
    Check.identity(x, "8^6*8^6*8^6*8*8*4*(a-b)=8^6*8^6*8^6*8*8*4-1+8^6*8^6*8^6*8*8*4+a");
    check.due("the greatest long", x.side(1, 0, 0, 0, 0, 0, 0), Long.MAX_VALUE);
    check.due("one beyond", x.side(1, 1, 0, 0, 0, 0, 0), Long.MIN_VALUE);
    check.due("the least long", x.side(0, 0, 2, 0, 0, 0, 0), Long.MIN_VALUE);
    check.due("half of it", x.side(0, 0, 1, 0, 0, 0, 0), -1L << 62);
    Check.identity(x, "a-b-c=a-(b-c)");
    check.due("from the left", x.side(0, 1, 2, 3, 0, 0, 0), -4);
    check.due("the inner first", x.side(1, 1, 2, 3, 0, 0, 0), 2);
  }

  private static void written(ToldPowers x, int slot, int from, int to, String text) {
    check.due("write(" + slot + ", " + from + ", " + to + ")", x.write(slot, from, to), text.length());
    check.text("written", Check.shown(x), text);
  }

  private static void shownTexts() {
    ToldPowers x = Check.with("2square from -1 to 3+99line from 0 to 30 + 1 cube from 0 to 13",
        "line from -3000 to 3000", "square+square", "three from -2 to 76+three from 0 to 76+fourth from 0 to 6");
    spelled(x, 0, "2square from -1 to 3+99line+cube from 0 to 13");
    spelled(x, 1, "line from -3000 to 3000");
    spelled(x, 3, "three from -2 to 76+three+fourth from 0 to 6");
    written(x, 2, 3, 5, "3 not;4=0,2;5=1,2;");
    written(x, 2, -1, 0, "-1 not;0=0,0;");
    written(x, 1, -3000, -2999, "-3000=-3000;-2999=-2999;");
    check.due("write of 60", x.write(2, 0, 59) > 0, true);
    String kept = Check.shown(x);
    check.due("write of 61", x.write(2, 0, 60), -1);
    check.due("write of all", x.write(2, -3000, 3000), -1);
    check.due("write below", x.write(2, 1, 0), -1);
    check.due("write beyond", x.write(2, 2999, 3001), -1);
    check.due("write beyond", x.write(2, MIN, MAX), -1);
    check.due("write, no slot", x.write(4, 1, 2), -1);
    check.due("spell, no slot", x.spell(-1), -1);
    check.text("what was shown latest", Check.shown(x), kept);
    check.due("out(-1)", x.out(-1), -1);
    check.due("out(MAX)", x.out(MAX), -1);
    check.due("out behind", x.out(kept.length()), -1);
    Check.put(x, kept);
    check.due("what is written is proved", x.prove(2), 60);
    ToldPowers y = Check.with("line from -3000 to -2900+line from -1000 to 3000+line from -3000 to 3000+line from -1000 to 0+line from -1000 to -1000");
    check.due("the longest", y.write(0, -3000, -2941), Check.shown(y).length());
    check.due("the longest begins", y.out(0), '-');
    written(y, 0, -3000, -3000, "-3000=-3000,-1000,2000,0,-1000;");
  }

  private static void gapsAndRanks() {
    ToldPowers x = Check.with("square from 0 to 5", "2line", "square+square", "line from -3000 to 3000");
    check.due("gap(0, 0, 30, 0)", x.gap(0, 0, 30, 0), 8);
    check.due("gap(0, 0, 30, 1)", x.gap(0, 0, 30, 1), 17);
    check.due("gap to the end", x.gap(0, 0, 3000, 0), 2975);
    check.due("gap to the end", x.gap(0, 0, 3000, 1), 26);
    check.due("gap from the begin", x.gap(0, -3000, 30, 1), -3000);
    check.due("the first of several", x.gap(1, 0, 100, 1), 1);
    check.due("the first of several", x.gap(1, 0, 100, 0), 1);
    check.due("none is missed", x.gap(3, -3000, 3000, 0), 0);
    check.due("none is missed", x.gap(3, -3000, 3000, 1), NOTHING);
    check.due("gap what 2", x.gap(0, 0, 30, 2), NOTHING);
    check.due("gap what -1", x.gap(0, 0, 30, -1), NOTHING);
    check.due("gap below", x.gap(0, 30, 0, 0), NOTHING);
    check.due("gap beyond", x.gap(0, 0, 3001, 0), NOTHING);
    check.due("gap, no slot", x.gap(4, 0, 3000, 0), NOTHING);
    int[] due = {25, 1, 4, 5, 9, 10, 13, 16, 17, 20, 26, 29, 0, 2, 8, 18, 3};
    for (int i = 0; i < due.length; i++) {
      check.due("rank " + i, x.rank(2, 0, 30, i), due[i]);
    }
    check.due("rank 30", x.rank(2, 0, 30, 30), 30);
    check.due("rank 31", x.rank(2, 0, 30, 31), NOTHING);
    check.due("rank -1", x.rank(2, 0, 30, -1), NOTHING);
    check.due("rank of 200", x.rank(2, -199, 0, 0), 0);
    check.due("rank of 200", x.rank(2, -199, 0, 199), -1);
    check.due("rank of 201", x.rank(2, 0, 200, 0), NOTHING);
    check.due("rank below", x.rank(2, 1, 0, 0), NOTHING);
    check.due("rank beyond", x.rank(2, 2999, 3001, 0), NOTHING);
    check.due("rank, no slot", x.rank(-1, 0, 1, 0), NOTHING);
  }

  private static void looks() {
    ToldPowers x = Check.with("line", "line+line", "line+line+line", "line+line+line+line+line");
    check.due("look(0)", x.look(0), 1);
    check.due("look(1)", x.look(1), 2);
    check.due("look(2)", x.look(2), 3);
    check.due("look(3)", x.look(3), 5);
    Check.put(x, "abc");
    check.due("look(4)", x.look(4), 3);
    Check.identity(x, "(a+c)*2^3=((f))");
    check.due("look(5)", x.look(5), 1 + 4 + 32);
    check.due("look(6)", x.look(6), 7);
    check.due("look(7)", x.look(7), -1);
    check.due("look(-1)", x.look(-1), -1);
    check.due("look(MIN)", x.look(MIN), -1);
  }

  private static void edges() {
    ToldPowers x = Check.with("line from 0 to 5", "line from 3000 to 3000+line from 3000 to 3000+line from 3000 to 3000+line from 3000 to 3000+line from 3000 to 3000",
        "line+line+line+line+line", "square");
    check.due("many: the last number", x.many(2, 3000, 1, false), 3000);
    check.due("common: the last number", x.common(0, 2, 0, 5, -1), 6);
    check.due("common: the last number", x.common(0, 2, 0, 5, 5), 5);
    check.due("the farthest sum", x.nearest(1, -3000), 15000);
    check.due("greed of five terms", x.greed(1, -3000, -1), -18000);
    check.due("greed of five terms", x.greed(1, -3000, 4), 3000);
    check.due("enough of five terms", x.enough(1, 3000), 1);
    check.due("enough of five terms", x.enough(1, 2999), -1);
    check.due("greed to the greatest x", x.greed(0, 9, 0), 5);
    check.due("greed to the greatest x", x.greed(0, 5, 0), 5);
    check.due("never of one form", x.never(3, 5, -1), 2);
    check.due("never of another form", x.never(2, 5, -1), 0);
    check.due("number", x.number(0, 3, 3, 0, 0, 0, 0), 0);
    check.due("number by another slot", x.number(2, 2, 1, 0, 1, 0, 0), 12);
    check.due("way by another slot", x.way(3, 9, 0, 0), 3);
    check.due("one term joined with none", new ToldPowers().join(0, 0, 0), false);
    check.due("one term joined with one", x.join(3, 3, 2), true);
    check.due("ways of both", x.ways(2, 25), 4);
    check.due("join one with none", x.drop(3, 0) && x.join(0, 3, 2), true);
    check.due("ways of one", x.ways(2, 5), 1);
    Check.identity(x, "a=");
    check.due("a fault", x.fault(0), 1);
    Check.identity(x, "a=a");
    check.text("and none", Check.fault(x), "0 -1 -1 -1");
    check.due("tried(0, 0)", x.tried(0, 0), 0);
    Check.identity(x, "a=a+1");
    check.due("tried(0, 0)", x.tried(0, 0), 1);
    Check.put(x, "line");
    check.due("the greatest byte", x.feed(-1, -1, -1, -1, -1), 24);
    check.due("form", x.form(0), -1);
    check.text("its place", Check.fault(x), "1 4 0 -1");
    ToldPowers y = Check.with("line from -3000 to -3000+line from -3000 to -3000+line from -3000 to -3000+line from -3000 to -3000+line from -3000 to -3000",
        "line from 3000 to 3000", "line from -3000 to 3000+line from -3000 to 3000+line from -3000 to 3000+line from -3000 to 3000+line from -3000 to 3000");
    check.due("all sums below", y.nearest(0, 3000), -15000);
    check.due("all sums below", y.ways(0, -3000), 0);
    check.due("all sums below", y.unlike(0, -3000), 0);
    check.due("only the last", y.ways(1, 3000), 1);
    check.due("only the last", y.full(1), 3000);
    check.due("only the last", y.unlike(1, 3000), 1);
    check.due("one sum alone", Check.with("line from 3000 to 3000").ways(0, 3000), 1);
    check.due("one sum alone", Check.with("line from 3000 to 3000").unlike(0, 3000), 1);
    check.due("one sum alone", Check.with("line from 3000 to 3000").way(0, 3000, 0, 0), 3000);
    long middle = y.ways(2, 0);
    check.due("the last way", y.way(2, 0, middle - 1, 0), 3000);
    check.due("the last way", y.way(2, 0, middle - 1, 1), 3000);
    check.due("the last way", y.way(2, 0, middle - 1, 2), 0);
    check.due("the last way", y.way(2, 0, middle - 1, 4), -3000);
    check.due("as many on both sides", y.ways(2, 3000), y.ways(2, -3000));
    check.due("as many on both sides", y.unlike(2, 3000), y.unlike(2, -3000));
  }

  private static String times(String text, int count) {
    StringBuilder all = new StringBuilder();
    for (int i = 0; i < count; i++) {
      all.append(text);
    }
    return all.toString();
  }

  private static void fullTapes() {
    ToldPowers x = Check.with("line");
    String[] signs = {";", "(", "-", " ", "1", "a", "z", "+", (char) 255 + ""};
    for (String sign : signs) {
      String text = times(sign, 800);
      check.due("form of 800 " + sign, Check.form(x, 0, text), -1);
      check.due("prove of 800 " + sign, Check.prove(x, 0, text), sign.equals(" ") ? 0 : -1);
      check.due("identity of 800 " + sign, Check.identity(x, text), -1);
    }
    check.due("blanks at the end", Check.form(x, 0, "line" + times("\n", 796)), 1);
    check.due("blanks ahead", Check.form(x, 0, times(" ", 796) + "cube"), 1);
    check.due("the end of a full tape", Check.form(x, 0, times(" ", 795) + "cube+"), -1);
    check.text("the end of a full tape", Check.fault(x), "1 800 1 -1");
    check.due("an identity of 800 bytes", Check.identity(x, times(" ", 797) + "b=b"), 1);
    check.due("a word to the end", Check.identity(x, times(" ", 794) + "b=line"), -1);
    check.text("a word to the end", Check.fault(x), "1 796 1 0");
    check.due("digits to the end", Check.identity(x, times(" ", 794) + "b=1234"), 1);
  }
}
