/** Promises 1 to 8, the tape and what is read of it: a test of its own for each sentence, told in its first line. */
public final class BoundaryReadingTest {
  private static final int NOTHING = -100000;
  private static final int MIN = Integer.MIN_VALUE;
  private static final int MAX = Integer.MAX_VALUE;
  private static final int[] NO_SLOTS = {-1, 4, 5, MIN, MAX};
  private static final Check check = new Check("BoundaryReadingTest");
  private static final Doc doc = new Doc(check);

  public static void main(String[] args) {
    newObject();
    feed();
    end();
    form();
    prove();
    identity();
    fault();
    term();
    doc.all("ToldPowers", "feed", "end", "form", "prove", "identity", "fault", "term");
    check.end();
  }

  // ---- Promise 1

  private static void newObject() {
    doc.of("ToldPowers", "No FORM has TERMS;");
    ToldPowers x = new ToldPowers();
    for (int slot = 0; slot < 4; slot++) {
      check.due("look(" + slot + ")", x.look(slot), 0);
      check.due("term(" + slot + ", 0, 0)", x.term(slot, 0, 0), NOTHING);
      check.due("ways(" + slot + ", 0)", x.ways(slot, 0), -1);
      check.due("spell(" + slot + ")", x.spell(slot), -1);
    }
    check.due("the tape is empty", x.look(4), 0);
    check.due("nothing was shown", x.out(0), -1);

    doc.of("ToldPowers", "there is no IDENTITY.");
    ToldPowers y = new ToldPowers();
    check.due("letters", y.look(5), 0);
    check.due("parts", y.look(6), 0);
    for (int b = 0; b <= 3; b++) {
      check.due("tried(" + b + ", 0)", y.tried(b, 0), NOTHING);
    }
    check.due("side 0", y.side(0, 0, 0, 0, 0, 0, 0), Long.MIN_VALUE);
    check.due("side 1", y.side(1, 0, 0, 0, 0, 0, 0), Long.MIN_VALUE);
  }

  // ---- Promise 2

  private static void feed() {
    doc.of("feed", "Twenty bytes come behind THE TAPE, four of each number, the highest first: how many it has;");
    ToldPowers x = new ToldPowers();
    check.due("2cube from -1 to 11", x.feed(0x32637562, 0x65206672, 0x6f6d202d, 0x3120746f, 0x20313120), 20);
    check.due("+99fourth from 1 to2", x.feed(0x2b393966, 0x6f757274, 0x68206672, 0x6f6d2031, 0x20746f32), 40);
    check.due("look(4)", x.look(4), 40);
    check.due("form(0)", x.form(0), 2);
    check.text("terms", Check.terms(x, 0), "2 2 -1 11 + 99 3 1 2");
    for (int at = 0; at < 4; at++) {
      // a byte above 127 can't stand anywhere, so its place tells where it is
      check.due("feed", x.feed(0x20202020, 0x20202020 ^ 0xd0 << 24 - 8 * at, 0x20202020, MIN, -1), 20);
      check.due("form(1)", x.form(1), -1);
      check.due("the place of byte " + (4 + at), x.fault(1), 4 + at);
    }
    ToldPowers y = new ToldPowers();
    for (int i = 1; i <= 40; i++) {
      check.due("feed " + i, y.feed(i, MAX, MIN, -1, 0), 20 * i);
    }

    doc.of("feed", "NONE, and none come, if there would be more than 800.");
    check.due("feed to 820", y.feed(0, 0, 0, 0, 0), -1);
    check.due("none came", y.look(4), 800);
    for (int length : new int[] {799, 790, 781}) {
      check.due("end(" + length + ")", y.end(length), true);
      check.due("feed to " + (length + 20), y.feed(0, 0, 0, 0, 0), -1);
      check.due("none came", y.look(4), length);
    }
    check.due("end(780)", y.end(780), true);
    check.due("feed to 800", y.feed(0, 0, 0, 0, 0), 800);
    ToldPowers z = new ToldPowers();
    Check.put(z, "line" + " ".repeat(777));
    check.due("feed of \"+\"", z.feed(0x2b2b2b2b, 0x2b2b2b2b, 0x2b2b2b2b, 0x2b2b2b2b, 0x2b2b2b2b), -1);
    check.due("none came", z.form(0), 1);
  }

  // ---- Promise 3

  private static void end() {
    doc.of("end", "THE TAPE has its first n bytes alone: true;");
    ToldPowers x = new ToldPowers();
    Check.put(x, "line+cube");
    check.due("end(9), all of them", x.end(9), true);
    check.due("look(4)", x.look(4), 9);
    check.due("end(4)", x.end(4), true);
    check.due("look(4)", x.look(4), 4);
    check.due("the others are gone", x.end(9), false);
    check.due("feed comes behind", x.feed(0x2b737175, 0x61726520, 0x20202020, 0x20202020, 0x20202020), 24);
    check.due("form(0)", x.form(0), 2);
    check.text("terms", Check.terms(x, 0), "1 0 0 3000 + 1 1 0 54");
    check.due("end(0) of none", x.end(0), true);
    Check.put(x, "line");
    check.due("end(0)", x.end(0), true);
    check.due("look(4)", x.look(4), 0);
    check.due("an empty form", x.form(0), -1);
    for (int i = 0; i < 40; i++) {
      x.feed(0, 0, 0, 0, 0);
    }
    check.due("end(800)", x.end(800), true);
    check.due("end(799)", x.end(799), true);

    doc.of("end", "false if it has not so many, or n is below 0.");
    ToldPowers y = new ToldPowers();
    check.due("end(1) of none", y.end(1), false);
    Check.put(y, "line+cube");
    for (int n : new int[] {10, 20, 800, 801, MAX, -1, -9, MIN}) {
      check.due("end(" + n + ")", y.end(n), false);
      check.due("the tape stays", y.look(4), 9);
    }
    check.due("the bytes stay", y.form(0), 2);
  }

  // ---- Promise 4

  private static void form() {
    doc.of("form", "THE TAPE (empty then, in each case)");
    ToldPowers x = new ToldPowers();
    check.due("a form", Check.form(x, 0, "line+cube"), 2);
    check.due("the tape", x.look(4), 0);
    check.due("a fault", Check.form(x, 0, "line+cub"), -1);
    check.due("the tape", x.look(4), 0);
    for (int slot : NO_SLOTS) {
      check.due("form(" + slot + ")", Check.form(x, slot, "line"), -2);
      check.due("the tape", x.look(4), 0);
    }
    check.due("empty already", x.form(0), -1);
    check.due("the tape", x.look(4), 0);

    doc.of("form", "is a FORM that comes into a SLOT: how many TERMS.");
    ToldPowers y = new ToldPowers();
    check.due("five terms", Check.form(y, 3, "line+2square+3cube+4fourth+5three"), 5);
    check.text("slot 3", Check.terms(y, 3), "1 0 0 3000 + 2 1 0 38 + 3 2 0 10 + 4 3 0 5 + 5 4 0 34");
    check.due("other slots", y.look(0) + y.look(1) + y.look(2), 0);
    check.due("ways of what was there", y.ways(3, 0), 1);
    check.due("one term in their place", Check.form(y, 3, "cube from 1 to 2"), 1);
    check.text("slot 3", Check.terms(y, 3), "1 2 1 2");
    check.due("ways of what is there", y.ways(3, 0), 0);
    check.due("ways of what is there", y.ways(3, 8), 1);

    doc.of("form", "NONE with a FAULT (the SLOT stays);");
    String[] wrong = {"", "line+", "0line", "line from 1 to 0", "line+line+line+line+line+line"};
    for (String text : wrong) {
      check.due("form '" + text + "'", Check.form(y, 3, text), -1);
      check.due("a fault", y.fault(0) > 0, true);
      check.text("slot 3 stays", Check.terms(y, 3), "1 2 1 2");
    }
    check.due("its ways stay", y.ways(3, 8), 1);
    check.due("its ways stay", y.way(3, 8, 0, 0), 2);
    check.due("a slot of none stays", Check.form(y, 2, "lin"), -1);
    check.due("a slot of none stays", y.look(2), 0);

    doc.of("form", "-2: there is no such SLOT (no FAULT then).");
    for (int slot : NO_SLOTS) {
      check.due("a fault ahead", Check.form(y, 0, "x"), -1);
      check.due("form(" + slot + ") of a wrong text", Check.form(y, slot, "x"), -2);
      check.text("no fault", Check.fault(y), "0 -1 -1 -1");
      check.due("form(" + slot + ") of a right text", Check.form(y, slot, "line"), -2);
    }
    check.due("no slot has changed", y.look(0) + y.look(1) + y.look(2), 0);
    check.text("no slot has changed", Check.terms(y, 3), "1 2 1 2");
  }

  // ---- Promise 5

  private static void prove() {
    String tape = "THE TAPE (empty then, in each case)";
    doc.of("prove", tape);
    ToldPowers x = Check.with("square+square", "square");
    check.due("a proof", Check.prove(x, 0, "25=3,4;"), 1);
    check.due("the tape", x.look(4), 0);
    check.due("a fault", Check.prove(x, 0, "25=3,5;"), -1);
    check.due("the tape", x.look(4), 0);
    check.due("no terms", Check.prove(x, 2, "25=3,4;"), -2);
    check.due("the tape", x.look(4), 0);
    for (int slot : NO_SLOTS) {
      check.due("prove(" + slot + ")", Check.prove(x, slot, "25=3,4;"), -2);
      check.due("the tape", x.look(4), 0);
    }

    doc.of("prove", "is a PROOF of the FORM in a SLOT: how many LINES.");
    check.due("an empty tape", x.prove(0), 0);
    check.due("one line", Check.prove(x, 0, "25=3,4;"), 1);
    check.due("two lines", Check.prove(x, 0, "25=3,4;3not;"), 2);
    check.due("of another form", Check.prove(x, 1, "25=3,4;"), -1);
    check.due("of another form", Check.prove(x, 1, "25=5;24not;"), 2);
    StringBuilder sixty = new StringBuilder();
    for (int n = 1; n <= 60; n++) {
      sixty.append(-n).append("not;");
    }
    check.due("60 lines", Check.prove(x, 0, sixty.toString()), 60);
    check.due("no fault", x.fault(0), 0);
    check.text("the form stays", Check.terms(x, 0), "1 1 0 54 + 1 1 0 54");

    doc.of("prove", "NONE with a FAULT;");
    check.due("a fault behind right lines", Check.prove(x, 0, "25=3,4;3not;24not;x"), -1);
    check.text("its fault", Check.fault(x), "1 18 3 -1");
    check.due("a proof of nothing", Check.prove(x, 0, ";"), -1);
    check.text("its fault", Check.fault(x), "1 0 0 -1");
    check.due("61 lines", Check.prove(x, 0, sixty + "3not;"), -1);
    check.due("its fault", x.fault(0), 9);

    doc.of("prove", "-2: no such SLOT, no TERMS (no FAULT then).");
    int[] slots = {-1, 4, 5, MIN, MAX, 2, 3};
    for (int slot : slots) {
      check.due("a fault ahead", Check.prove(x, 0, "x"), -1);
      check.due("prove(" + slot + ") of a wrong text", Check.prove(x, slot, "x"), -2);
      check.text("no fault", Check.fault(x), "0 -1 -1 -1");
      check.due("prove(" + slot + ") of none", x.prove(slot), -2);
    }
    check.due("the last term goes", x.drop(1, 0), true);
    check.due("no terms any more", Check.prove(x, 1, "25=5;"), -2);
  }

  // ---- Promise 6

  private static void identity() {
    doc.of("identity", "THE TAPE (empty then, in each case)");
    ToldPowers x = new ToldPowers();
    check.due("an identity", Check.identity(x, "a=b"), 2);
    check.due("the tape", x.look(4), 0);
    check.due("a fault", Check.identity(x, "a=bb"), -1);
    check.due("the tape", x.look(4), 0);
    check.due("an empty tape", x.identity(), -1);
    check.due("the tape", x.look(4), 0);

    doc.of("identity", "is the IDENTITY, in place of the one there was:");
    check.due("an identity", Check.identity(x, "a=b"), 2);
    check.due("tried", x.tried(1, 0), 6);
    check.due("another one", Check.identity(x, "c=c+(d-d)"), 2);
    check.due("tried", x.tried(1, 0), 0);
    check.due("its letters", x.look(5), 4 + 8);
    check.due("its parts", x.look(6), 5);
    check.due("its side", x.side(1, 1, 2, 3, 4, 5, 6), 3);
    check.due("a third one", Check.identity(x, "1=2"), 0);
    check.due("tried", x.tried(1, 0), 1);
    check.due("its letters", x.look(5), 0);
    check.due("its parts", x.look(6), 2);
    // the longest ones that there can be, and those that are cut off within, many times
    for (int i = 0; i < 9; i++) {
      check.due("60 parts", Check.identity(x, "a^2" + "+a^2".repeat(57) + "+b^6=c^" + i % 7), 3);
      check.due("their side", x.side(0, 3, 2, 7, 0, 0, 0), 58 * 9 + 64);
      check.due("the other side", x.side(1, 3, 2, -1, 0, 0, 0), i % 7 % 2 == 0 ? 1 : -1);
      check.due("cut off", Check.identity(x, "d*e^5+".repeat(29) + "d*(e"), -1);
      check.due("it stays", x.side(0, 1, 2, 7, 0, 0, 0), 58 + 64);
    }

    for (int i = 0; i < 40; i++) {
      check.due("cut off", Check.identity(x, "d+e*(".repeat(6) + "d+e*"), -1);
    }
    check.due("behind many that were cut off", Check.identity(x, "d-e=e-d"), 2);
    check.due("its side", x.side(0, 0, 0, 0, 5, 2, 0), 3);

    doc.of("identity", "how many LETTERS stand in it.");
    check.due("none", Check.identity(x, "1=2^0"), 0);
    check.due("one", Check.identity(x, "a*a=a^2+0*a"), 1);
    check.due("one of each side", Check.identity(x, "f=a"), 2);
    check.due("all", Check.identity(x, "f+e+d=c+b+a+a+b+c"), 6);

    doc.of("identity", "NONE with a FAULT (it stays).");
    check.due("an identity", Check.identity(x, "a*b=c+1"), 3);
    for (String wrong : new String[] {"", "f", "f=", "f=f^7", "(((((((f", "f=f f", "1=2+" + "f+".repeat(60) + "f"}) {
      check.due("identity '" + wrong + "'", Check.identity(x, wrong), -1);
      check.due("a fault", x.fault(0) > 0, true);
      check.due("its letters stay", x.look(5), 7);
      check.due("its parts stay", x.look(6), 4);
      check.due("its side stays", x.side(0, 2, 3, 4, 5, 6, 7), 6);
      check.due("its rows stay", x.tried(0, 0), 1);
    }
    ToldPowers y = new ToldPowers();
    check.due("a fault without one", Check.identity(y, "a=b^7"), -1);
    check.due("there is none still", y.tried(0, 0), NOTHING);
    check.due("there is none still", y.look(5) + y.look(6), 0);
    check.due("there is none still", y.side(0, 0, 0, 0, 0, 0, 0), Long.MIN_VALUE);
  }

  // ---- Promise 7

  private static void fault() {
    String line = "fault";
    doc.of(line, "Of the latest form(), prove(), identity()");
    ToldPowers x = new ToldPowers();
    check.text("of none", Check.fault(x), "0 -1 -1 -1");
    Check.form(x, 0, "line+");
    check.text("of form()", Check.fault(x), "1 5 1 -1");
    Check.identity(x, "((a");
    check.text("of identity()", Check.fault(x), "1 3 0 2");
    Check.form(x, 0, "line");
    check.text("of form()", Check.fault(x), "0 -1 -1 -1");
    Check.prove(x, 0, "7=7,7;");
    check.text("of prove()", Check.fault(x), "7 4 0 1");
    Check.put(x, "x");
    x.spell(0);
    x.ways(0, 0);
    x.drop(3, 0);
    check.text("others leave it", Check.fault(x), "7 4 0 1");
    check.due("prove(3)", x.prove(3), -2);
    check.text("of prove(3)", Check.fault(x), "0 -1 -1 -1");
    Check.identity(x, "x");
    check.due("form(4)", x.form(4), -2);
    check.text("of form(4)", Check.fault(x), "0 -1 -1 -1");
    Check.prove(x, 0, "x");
    Check.identity(x, "a=a");
    check.text("of identity()", Check.fault(x), "0 -1 -1 -1");

    doc.of(line, "what 0 its FAULT (0 without),");
    faults(0, 0, 2, 3, 4, 7, 11);
    doc.of(line, "1 its place (NONE),");
    faults(1, -1, 5, 15, 25, 4, 9);
    doc.of(line, "2 of a FORM the TERM, of a PROOF the LINE, of an IDENTITY the side,");
    faults(2, -1, 1, 0, 5, 0, 1);
    doc.of(line, "3 of a PROOF the TERM, of an IDENTITY how many \"(\" (NONE of others, without).");
    faults(3, -1, -1, -1, -1, 1, 6);

    doc.of(line, "NONE for another what.");
    Check.identity(x, "((a");
    for (int what : new int[] {-1, 4, 5, MIN, MAX}) {
      check.due("fault(" + what + ") with a fault", x.fault(what), -1);
    }
    Check.identity(x, "a=a");
    for (int what : new int[] {-1, 4, 5, MIN, MAX}) {
      check.due("fault(" + what + ") without", x.fault(what), -1);
    }
  }

  /** One what of several readings: right ones, then one fault after the other. */
  private static void faults(int what, int without, int... due) {
    ToldPowers x = Check.with("line");
    String call = "fault(" + what + ") of ";
    check.due(call + "a form", x.fault(what), without);
    Check.prove(x, 0, "7=7;");
    check.due(call + "a proof", x.fault(what), without);
    Check.identity(x, "a=a");
    check.due(call + "an identity", x.fault(what), without);
    Check.form(x, 0, "line+100");
    check.due(call + "a factor", x.fault(what), due[0]);
    Check.form(x, 0, "line from 9 to 8");
    check.due(call + "a range", x.fault(what), due[1]);
    Check.form(x, 0, "line+line+line+line+line+line");
    check.due(call + "a 6th term", x.fault(what), due[2]);
    Check.prove(x, 0, "7=7,7;");
    check.due(call + "one x too many", x.fault(what), due[3]);
    Check.identity(x, "a=(((((( (b");
    check.due(call + "a 7th \"(\"", x.fault(what), due[4]);
  }

  // ---- Promise 8

  private static void term() {
    doc.of("term", "Of TERM i of a SLOT what 0 FACTOR, 1 KIND, 2 LOW, 3 HIGH.");
    ToldPowers x = Check.with("7three from -29 to 3+line+99fourth from -2 to -1+2square from 0 to 0+cube from -14 to 14", "line from -3000 to 3000");
    int[][] due = {{7, 4, -29, 3}, {1, 0, 0, 3000}, {99, 3, -2, -1}, {2, 1, 0, 0}, {1, 2, -14, 14}};
    for (int i = 0; i < 5; i++) {
      for (int what = 0; what < 4; what++) {
        check.due("term(0, " + i + ", " + what + ")", x.term(0, i, what), due[i][what]);
      }
    }
    check.due("the least LOW", x.term(1, 0, 2), -3000);
    check.due("the greatest HIGH", x.term(1, 0, 3), 3000);

    doc.of("term", "-100000: there is none such, or another what.");
    for (int what = 0; what < 4; what++) {
      for (int slot : NO_SLOTS) {
        check.due("term(" + slot + ", 0, " + what + ")", x.term(slot, 0, what), NOTHING);
      }
      for (int i : new int[] {-1, 5, 6, MIN, MAX}) {
        check.due("term(0, " + i + ", " + what + ")", x.term(0, i, what), NOTHING);
      }
      check.due("term(1, 1, " + what + ")", x.term(1, 1, what), NOTHING);
      check.due("term(2, 0, " + what + ")", x.term(2, 0, what), NOTHING);
    }
    for (int what : new int[] {-1, 4, 5, MIN, MAX}) {
      check.due("term(0, 0, " + what + ")", x.term(0, 0, what), NOTHING);
    }
    check.due("its last term goes", x.drop(0, 4), true);
    check.due("none behind", x.term(0, 4, 0), NOTHING);
  }
}
