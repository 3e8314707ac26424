/** Promises 24 to 26, 28 to 32 and 35, forms that change, identities and what is shown: a test of its own for each sentence. */
public final class BoundaryFormsTest {
  private static final int NOTHING = -100000;
  private static final int MIN = Integer.MIN_VALUE;
  private static final int MAX = Integer.MAX_VALUE;
  private static final int[] NO_SLOTS = {-1, 4, 5, MIN, MAX};
  private static final int[][] NO_RANGES = {{-3001, -3000}, {3000, 3001}, {1, 0}, {3000, -3000}, {MIN, MIN}, {MAX, MAX}, {MIN, MAX}, {MAX, MIN},
      {3001, 3001}, {-3001, -3001}, {-3001, -2990}, {2990, 3001}, {0, MIN}, {MAX, 0}};
  /** 2 to the 62. */
  private static final String P = "((8^6)^3*2^6*4)";
  private static final Check check = new Check("BoundaryFormsTest");
  private static final Doc doc = new Doc(check);

  public static void main(String[] args) {
    join();
    drop();
    lead();
    tried();
    side();
    spell();
    write();
    out();
    look();
    doc.all("join", "drop", "lead", "tried", "side", "spell", "write", "out", "look");
    check.end();
  }

  // ---- Promises 24 to 26

  private static void join() {
    doc.of("join", "TERMS of two SLOTS, one behind the other, come into a SLOT: true;");
    String line = "1 0 0 3000";
    String cube = "1 2 0 14";
    ToldPowers x = Check.with("line", "cube", "3square from -1 to 2+2fourth");
    check.due("into a third", x.join(0, 1, 3), true);
    check.text("slot 3", Check.terms(x, 3), line + " + " + cube);
    check.due("the other way", x.join(1, 0, 3), true);
    check.text("slot 3", Check.terms(x, 3), cube + " + " + line);
    check.text("the others stay", Check.terms(x, 0) + " " + Check.terms(x, 1), line + " " + cube);
    check.due("into the first", x.join(0, 1, 0), true);
    check.text("slot 0", Check.terms(x, 0), line + " + " + cube);
    check.due("into the second", x.join(2, 1, 1), true);
    check.text("slot 1", Check.terms(x, 1), "3 1 -1 2 + 2 3 0 6 + " + cube);
    check.due("five terms", x.join(1, 0, 2), true);
    check.text("slot 2", Check.terms(x, 2), "3 1 -1 2 + 2 3 0 6 + " + cube + " + " + line + " + " + cube);
    check.due("with itself", x.join(0, 0, 0), true);
    check.text("slot 0", Check.terms(x, 0), line + " + " + cube + " + " + line + " + " + cube);
    check.due("ways of what is there", x.ways(0, 1), 4);
    check.due("unlike ways of what is there", x.unlike(0, 1), 2);
    ToldPowers y = Check.with("line");
    check.due("one with none", y.join(0, 3, 1), true);
    check.due("none with one", y.join(3, 0, 2), true);
    check.text("slots 1 and 2", Check.terms(y, 1) + " " + Check.terms(y, 2), line + " " + line);
    check.due("into one of none", y.join(0, 3, 3), true);
    check.text("slot 3", Check.terms(y, 3), line);

    doc.of("join", "false: there would be more than 5 or none,");
    ToldPowers z = Check.with("line+line+line", "cube+cube+cube", "line+line+line+line+line");
    check.due("6 terms", z.join(0, 1, 3), false);
    check.due("6 terms into one of both", z.join(0, 1, 0), false);
    check.due("10 terms", z.join(2, 2, 3), false);
    check.due("none of both", z.join(3, 3, 0), false);
    check.due("the slots stay", z.look(0) == 3 && z.look(1) == 3 && z.look(2) == 5 && z.look(3) == 0, true);
    check.due("5 and none", z.join(2, 3, 3), true);
    check.due("5 terms", z.look(3), 5);
    check.due("5 and 1", z.drop(1, 0) && z.drop(1, 0) && z.join(2, 1, 0), false);

    doc.of("join", "there is no such SLOT.");
    ToldPowers w = Check.with("line", "cube");
    for (int slot : NO_SLOTS) {
      check.due("join(" + slot + ", 1, 2)", w.join(slot, 1, 2), false);
      check.due("join(0, " + slot + ", 2)", w.join(0, slot, 2), false);
      check.due("join(0, 1, " + slot + ")", w.join(0, 1, slot), false);
    }
    check.due("the slots stay", w.look(0) == 1 && w.look(1) == 1 && w.look(2) == 0 && w.look(3) == 0, true);
  }

  private static void drop() {
    doc.of("drop", "TERM i of a SLOT goes: true;");
    ToldPowers x = Check.with("line from 1 to 1+line from 2 to 2+line from 3 to 3+line from 4 to 4+line from 5 to 5", "cube", "line", "line");
    check.due("ways of 15", x.ways(0, 15), 1);
    check.due("the last", x.drop(0, 4), true);
    check.text("slot 0", Check.terms(x, 0), "1 0 1 1 + 1 0 2 2 + 1 0 3 3 + 1 0 4 4");
    check.due("ways then", x.ways(0, 15), 0);
    check.due("ways then", x.ways(0, 10), 1);
    check.due("unlike ways then", x.unlike(0, 10), 1);
    check.due("the first", x.drop(0, 0), true);
    check.text("slot 0", Check.terms(x, 0), "1 0 2 2 + 1 0 3 3 + 1 0 4 4");
    check.due("one between", x.drop(0, 1), true);
    check.text("slot 0", Check.terms(x, 0), "1 0 2 2 + 1 0 4 4");
    check.due("ways of 10", x.ways(0, 10), 0);
    check.due("unlike ways of 10", x.unlike(0, 10), 0);
    check.due("ways of 6", x.ways(0, 6), 1);
    check.due("unlike ways of 6", x.unlike(0, 6), 1);
    check.due("way of 6", x.way(0, 6, 0, 1), 4);
    check.due("enough for 2", x.enough(0, 2), 1);
    check.due("the only one", x.drop(1, 0), true);
    check.due("none is left", x.look(1), 0);
    check.due("none is left", x.ways(1, 0), -1);
    check.due("slot 3", x.drop(3, 0), true);

    doc.of("drop", "false: there is none such.");
    check.due("no terms", x.drop(1, 0), false);
    for (int i : new int[] {-1, 2, 4, 5, MIN, MAX}) {
      check.due("drop(0, " + i + ")", x.drop(0, i), false);
    }
    for (int slot : NO_SLOTS) {
      check.due("drop(" + slot + ", 0)", x.drop(slot, 0), false);
    }
    check.text("slot 0 stays", Check.terms(x, 0), "1 0 2 2 + 1 0 4 4");
    check.due("slot 2 stays", x.look(2), 1);
  }

  private static void lead() {
    doc.of("lead", "TERM i of a SLOT goes ahead of all others: true;");
    ToldPowers x = Check.with("line from 1 to 1+line from 2 to 2+line from 3 to 3+line from 4 to 4+line from 5 to 5", "cube", "square+2line");
    check.due("the last", x.lead(0, 4), true);
    check.text("slot 0", Check.terms(x, 0), "1 0 5 5 + 1 0 1 1 + 1 0 2 2 + 1 0 3 3 + 1 0 4 4");
    check.due("one between", x.lead(0, 2), true);
    check.text("slot 0", Check.terms(x, 0), "1 0 2 2 + 1 0 5 5 + 1 0 1 1 + 1 0 3 3 + 1 0 4 4");
    check.due("the first", x.lead(0, 0), true);
    check.text("slot 0", Check.terms(x, 0), "1 0 2 2 + 1 0 5 5 + 1 0 1 1 + 1 0 3 3 + 1 0 4 4");
    check.due("the only one", x.lead(1, 0), true);
    check.text("slot 1", Check.terms(x, 1), "1 2 0 14");
    check.due("greed ahead of it", x.greed(2, 5, 0), 2);
    check.due("way ahead of it", x.way(2, 9, 0, 0), 1);
    check.due("lead(2, 1)", x.lead(2, 1), true);
    check.due("greed behind it", x.greed(2, 5, 1), 1);
    check.due("way behind it", x.way(2, 9, 0, 1), 3);

    doc.of("lead", "false: there is none such.");
    check.due("no terms", x.lead(3, 0), false);
    for (int i : new int[] {-1, 5, 6, MIN, MAX}) {
      check.due("lead(0, " + i + ")", x.lead(0, i), false);
    }
    check.due("lead(1, 1)", x.lead(1, 1), false);
    for (int slot : NO_SLOTS) {
      check.due("lead(" + slot + ", 0)", x.lead(slot, 0), false);
    }
    check.text("slot 0 stays", Check.terms(x, 0), "1 0 2 2 + 1 0 5 5 + 1 0 1 1 + 1 0 3 3 + 1 0 4 4");
  }

  // ---- Promises 28 and 29

  private static void tried() {
    doc.of("tried", "Of the IDENTITY tried with B what 0 on how many rows it is BROKEN,");
    ToldPowers x = new ToldPowers();
    Check.identity(x, "a=b");
    int[] broken = {0, 6, 20, 42};
    for (int b = 3; b >= 0; b--) {
      check.due("tried(" + b + ", 0)", x.tried(b, 0), broken[b]);
      check.due("tried(" + b + ", 0) again", x.tried(b, 0), broken[b]);
    }
    Check.identity(x, "a+b+c+d+e+f=99");
    check.due("all of six letters", x.tried(3, 0), 117649);
    Check.identity(x, "0=1");
    for (int b = 0; b <= 3; b++) {
      check.due("one row without letters", x.tried(b, 0), 1);
    }
    Check.identity(x, "(a+b)^2=a^2+2*a*b+b^2");
    check.due("none", x.tried(3, 0), 0);

    doc.of("tried", "1 to 6 the number for a, .. f on the first of these (0 for LETTERS that don't stand in it),");
    triedAs("a=b", 3, 42, -3, -2, 0, 0, 0, 0, 0);
    triedAs("f=b", 2, 20, 0, -2, 0, 0, 0, -1, 0);
    triedAs("a+b+c+d+e+f=99", 3, 117649, -3, -3, -3, -3, -3, -3, 0);
    triedAs("0=1", 3, 1, 0, 0, 0, 0, 0, 0, 0);
    triedAs("c*(c-1)*(c+1)*(c+2)*(c+3)*(c-2)=0*e", 3, 7, 0, 0, 3, 0, -3, 0, 0);

    doc.of("tried", "7 whether a number met there is beyond longs (1, 0).");
    triedAs("a*" + P + "=a*" + P, 2, 1, 2, 0, 0, 0, 0, 0, 1);
    triedAs("a*" + P + "=b", 2, 24, -2, -2, 0, 0, 0, 0, 0);
    triedAs("a*a*" + P + "=b", 2, 24, -2, -2, 0, 0, 0, 0, 1);
    // beyond on the second row that is broken, not on the first
    triedAs("a+1+0*(a+1)*" + P + "*2=0", 1, 2, 0, 0, 0, 0, 0, 0, 0);
    triedAs("a+(a+1)*" + P + "=0", 1, 3, -1, 0, 0, 0, 0, 0, 0);
    triedAs("0-(a+1)*" + P + "*2=0-1", 0, 1, 0, 0, 0, 0, 0, 0, 1);
    triedAs(P + "+" + P + "=1", 0, 1, 0, 0, 0, 0, 0, 0, 1);
    triedAs("1=" + P + "+" + P, 0, 1, 0, 0, 0, 0, 0, 0, 1);

    doc.of("tried", "-100000: there is none such (1 to 7: it is BROKEN on none), B can't be, or another what.");
    ToldPowers none = new ToldPowers();
    for (int what = 0; what <= 7; what++) {
      check.due("tried(1, " + what + ") without one", none.tried(1, what), NOTHING);
    }
    triedAs("a=a", 3, 0, NOTHING, NOTHING, NOTHING, NOTHING, NOTHING, NOTHING, NOTHING);
    Check.identity(x, "a=b");
    for (int what = 1; what <= 7; what++) {
      check.due("broken on none with 0", x.tried(0, what), NOTHING);
    }
    for (int b : new int[] {-1, 4, 5, MIN, MAX}) {
      check.due("tried(" + b + ", 0)", x.tried(b, 0), NOTHING);
      check.due("tried(" + b + ", 1)", x.tried(b, 1), NOTHING);
    }
    for (int what : new int[] {-1, 8, 9, MIN, MAX}) {
      check.due("tried(1, " + what + ")", x.tried(1, what), NOTHING);
    }
  }

  private static void triedAs(String text, int b, int... due) {
    ToldPowers x = new ToldPowers();
    check.due("identity '" + text + "'", Check.identity(x, text) >= 0, true);
    for (int what = 0; what < 8; what++) {
      check.due("tried(" + b + ", " + what + ") of '" + text + "'", x.tried(b, what), due[what]);
    }
  }

  private static void side() {
    doc.of("side", "A side (0, 1) of the IDENTITY for a, .. f (-9 .. 9).");
    ToldPowers x = new ToldPowers();
    Check.identity(x, "a+10*b+100*c+1000*d+1000*10*e+1000*100*f=a-b");
    check.due("side 0", x.side(0, 1, 2, 3, 4, 5, 6), 654321);
    check.due("side 1", x.side(1, 1, 2, 3, 4, 5, 6), -1);
    check.due("the greatest", x.side(0, 9, 9, 9, 9, 9, 9), 999999);
    check.due("the least", x.side(0, -9, -9, -9, -9, -9, -9), -999999);
    check.due("both", x.side(1, 9, -9, 0, 0, 0, 0), 18);
    check.due("rows tried leave it", x.tried(1, 0) > 0, true);
    check.due("side 1", x.side(1, 7, 4, 9, 9, 9, 9), 3);

    doc.of("side", "Long.MIN_VALUE: there is none such,");
    for (int side : new int[] {-1, 2, MIN, MAX}) {
      check.due("side " + side, x.side(side, 0, 0, 0, 0, 0, 0), Long.MIN_VALUE);
    }
    for (int letter = 0; letter < 6; letter++) {
      for (int value : new int[] {-10, 10, MIN, MAX}) {
        int[] v = new int[6];
        v[letter] = value;
        check.due("letter " + letter + " as " + value, x.side(0, v[0], v[1], v[2], v[3], v[4], v[5]), Long.MIN_VALUE);
      }
    }
    check.due("no identity", new ToldPowers().side(0, 0, 0, 0, 0, 0, 0), Long.MIN_VALUE);
    check.due("no identity", new ToldPowers().side(1, 0, 0, 0, 0, 0, 0), Long.MIN_VALUE);

    doc.of("side", "or a number met is beyond longs.");
    ToldPowers y = new ToldPowers();
    Check.identity(y, P + "-1+" + P + "+a=a*" + P + "*2+1");
    check.due("the greatest long", y.side(0, 0, 0, 0, 0, 0, 0), Long.MAX_VALUE);
    check.due("one more", y.side(0, 1, 0, 0, 0, 0, 0), Long.MIN_VALUE);
    check.due("one less", y.side(0, -1, 0, 0, 0, 0, 0), Long.MAX_VALUE - 1);
    check.due("the least long and 1", y.side(1, -1, 0, 0, 0, 0, 0), Long.MIN_VALUE + 1);
    check.due("2 to the 63", y.side(1, 1, 0, 0, 0, 0, 0), Long.MIN_VALUE);
    check.due("of this side alone", y.side(0, -9, 0, 0, 0, 0, 0), Long.MAX_VALUE - 9);
    check.due("of this side alone", y.side(1, 0, 0, 0, 0, 0, 0), 1);
    Check.identity(y, "0*" + P + "*4=" + P + "*4*0");
    check.due("not met", y.side(0, 0, 0, 0, 0, 0, 0), 0);
    check.due("met on the way", y.side(1, 0, 0, 0, 0, 0, 0), Long.MIN_VALUE);
    Check.identity(y, "(a*9999)^4=(a*9999)^5");
    check.due("powers", y.side(0, 5, 0, 0, 0, 0, 0), 625L * 9999 * 9999 * 9999 * 9999);
    check.due("powers", y.side(0, 6, 0, 0, 0, 0, 0), Long.MIN_VALUE);
    check.due("powers", y.side(1, 1, 0, 0, 0, 0, 0), Long.MIN_VALUE);
    check.due("powers of 0", y.side(1, 0, 0, 0, 0, 0, 0), 0);
  }

  // ---- Promises 30 to 32

  private static void spelled(String text, String due) {
    ToldPowers x = Check.with(text);
    check.due("spell of '" + text + "'", x.spell(0), due.length());
    check.text("spelled", Check.shown(x), due);
  }

  private static void spell() {
    String line = "spell";
    doc.of(line, "A FORM is SHOWN, as a TEXT: of each TERM its FACTOR (but 1), its KIND;");
    spelled("1line", "line");
    spelled("0001square", "square");
    spelled("2cube", "2cube");
    spelled("09fourth", "9fourth");
    spelled("10three", "10three");
    spelled("99line", "99line");
    ToldPowers x = Check.with("7three from -29 to 3+fourth+99line");
    x.spell(0);
    check.due("what is shown is a form", Check.form(x, 1, Check.shown(x)), 3);
    check.text("and the same", Check.terms(x, 1), Check.terms(x, 0));

    doc.of(line, "\" from \" LOW \" to \" HIGH, if it has another range than without one;");
    spelled("line from 0 to 3000", "line");
    spelled("line from 0 to 2999", "line from 0 to 2999");
    spelled("line from -1 to 3000", "line from -1 to 3000");
    spelled("line from 1 to 3000", "line from 1 to 3000");
    spelled("line from -0 to 0", "line from 0 to 0");
    spelled("line from -3000 to -3000", "line from -3000 to -3000");
    spelled("2line from 0 to 1500", "2line");
    spelled("square from 0 to 54", "square");
    spelled("3cube from 0 to 10", "3cube");
    spelled("3cube from 0 to 9", "3cube from 0 to 9");
    spelled("fourth from 0 to 7", "fourth");
    spelled("10three from 0 to 24", "10three");
    spelled("10three from -25 to 24", "10three from -25 to 24");
    spelled("line from 10 to 100", "line from 10 to 100");
    spelled("line from -10 to 1009", "line from -10 to 1009");

    doc.of(line, "\"+\" between TERMS, nothing else: how many bytes.");
    spelled(" line\n+ line ", "line+line");
    spelled("2 square from - 1 to 3 + 99 line from 0 to 30 + 1 cube", "2square from -1 to 3+99line+cube");
    String longest = "98square from -5 to -5";
    spelled(longest + ("+" + longest).repeat(4), longest + ("+" + longest).repeat(4));

    doc.of(line, "NONE: there is none such.");
    check.due("spell(0)", x.spell(0), 34);
    for (int slot : NO_SLOTS) {
      check.due("spell(" + slot + ")", x.spell(slot), -1);
    }
    check.due("no terms", x.spell(3), -1);
    check.due("what was shown stays", x.out(33), 'e');
  }

  private static void written(ToldPowers x, int slot, int from, int to, String due) {
    check.due("write(" + slot + ", " + from + ", " + to + ")", x.write(slot, from, to), due.length());
    check.text("written", Check.shown(x), due);
  }

  private static void write() {
    String line = "write";
    doc.of(line, "A PROOF is SHOWN for n from one to another one (60 at most):");
    ToldPowers x = Check.with("line from -3000 to 3000", "square+square");
    written(x, 0, -3000, -3000, "-3000=-3000;");
    written(x, 0, 3000, 3000, "3000=3000;");
    written(x, 1, 0, 0, "0=0,0;");
    StringBuilder due = new StringBuilder();
    for (int n = -30; n < 30; n++) {
      due.append(n).append('=').append(n).append(';');
    }
    check.due("60 of them", x.write(0, -30, 29), due.length());
    check.due("the last byte", x.out(due.length() - 1), ';');
    check.due("none behind", x.out(due.length()), -1);
    check.due("60 of them", x.write(0, 2941, 3000), 60 * 10);
    check.due("60 of them", x.write(0, -3000, -2941), 60 * 12);

    doc.of(line, "LINE by LINE n, then \"=\" and the x of its first WAY with \",\" between, or \" not\", then \";\", nothing else: how many bytes.");
    written(x, 1, 3, 5, "3 not;4=0,2;5=1,2;");
    written(x, 1, -1, 1, "-1 not;0=0,0;1=0,1;");
    written(x, 1, 25, 25, "25=0,5;");
    ToldPowers y = Check.with("line from -2 to -1+line from -1 to 1+line from -3000 to 3000+line from -9 to 9+three from -1 to 0", "cube from -1 to 1");
    written(y, 0, 0, 1, "0=-2,-1,-6,9,-1;1=-2,-1,-5,9,-1;");
    written(y, 1, -2, 2, "-2 not;-1=-1;0=0;1=1;2 not;");
    check.due("write", x.write(1, 0, 40) > 0, true);
    String proof = Check.shown(x);
    check.due("what is shown is a proof", Check.prove(Check.with("square+square"), 0, proof), 41);

    doc.of(line, "NONE: there are none such, more than 60.");
    ToldPowers z = Check.with("line from -3000 to 3000");
    check.due("write(0, 1, 2)", z.write(0, 1, 2), 8);
    check.due("61 of them", z.write(0, -30, 30), -1);
    check.due("61 of them", z.write(0, 2940, 3000), -1);
    check.due("all of them", z.write(0, -3000, 3000), -1);
    for (int[] range : NO_RANGES) {
      check.due("write(0, " + range[0] + ", " + range[1] + ")", z.write(0, range[0], range[1]), -1);
    }
    for (int slot : NO_SLOTS) {
      check.due("write(" + slot + ", 1, 2)", z.write(slot, 1, 2), -1);
    }
    check.due("no terms", z.write(3, 1, 2), -1);
    check.text("what was shown stays", Check.shown(z), "1=1;2=2;");
  }

  private static void out() {
    doc.of("out", "The i-th byte (from 0 on) of what was SHOWN latest.");
    ToldPowers x = Check.with("line", "cube");
    x.spell(0);
    check.text("spelled", Check.shown(x), "line");
    x.write(1, 8, 9);
    check.text("written", Check.shown(x), "8=2;9 not;");
    x.spell(1);
    check.text("spelled", Check.shown(x), "cube");
    check.due("the first byte", x.out(0), 'c');
    check.due("the last byte", x.out(3), 'e');
    Check.form(x, 1, "square");
    x.drop(0, 0);
    check.text("it stays", Check.shown(x), "cube");

    doc.of("out", "NONE: there is none such.");
    check.due("nothing was shown", new ToldPowers().out(0), -1);
    for (int i : new int[] {-1, 4, 5, 10, 2400, MIN, MAX}) {
      check.due("out(" + i + ")", x.out(i), -1);
    }
  }

  // ---- Promise 35

  private static void look() {
    doc.of("look", "0 .. 3 how many TERMS are in that SLOT,");
    ToldPowers x = Check.with("line", "line+line", "line+line+line+line+line");
    int[] due = {1, 2, 5, 0};
    for (int slot = 0; slot < 4; slot++) {
      check.due("look(" + slot + ")", x.look(slot), due[slot]);
    }

    doc.of("look", "4 bytes of THE TAPE,");
    check.due("none", x.look(4), 0);
    Check.put(x, "a");
    check.due("one", x.look(4), 1);
    Check.put(x, " ".repeat(800));
    check.due("all", x.look(4), 800);

    doc.of("look", "5 LETTERS that stand in the IDENTITY (bits),");
    check.due("without one", x.look(5), 0);
    for (int letter = 0; letter < 6; letter++) {
      Check.identity(x, (char) ('a' + letter) + "=0");
      check.due("letter " + letter, x.look(5), 1 << letter);
    }
    Check.identity(x, "a+f*0=(c-c)^0");
    check.due("a, c and f", x.look(5), 1 + 4 + 32);
    Check.identity(x, "a+b+c=d+e+f");
    check.due("all", x.look(5), 63);
    Check.identity(x, "1=1");
    check.due("none", x.look(5), 0);

    doc.of("look", "6 its PARTS.");
    check.due("without one", new ToldPowers().look(6), 0);
    check.due("two", x.look(6), 2);
    Check.identity(x, "(a+c)*2^3=((f))");
    check.due("\"(\" .. \")\" is one, a power none", x.look(6), 7);
    Check.identity(x, "a" + "+a".repeat(58) + "=b");
    check.due("60", x.look(6), 60);

    doc.of("look", "NONE for another what.");
    for (int what : new int[] {-1, 7, 8, MIN, MAX}) {
      check.due("look(" + what + ")", x.look(what), -1);
    }
  }
}
