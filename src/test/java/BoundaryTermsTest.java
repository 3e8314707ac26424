/** The sections "What it is", "Terms" but for faults, and "Not promised": a test of its own for each sentence, told in its first line. */
public final class BoundaryTermsTest {
  private static final int NOTHING = -100000;
  private static final int MIN = Integer.MIN_VALUE;
  private static final int MAX = Integer.MAX_VALUE;
  private static final int[] NO_SLOTS = {-1, 4, 5, MIN, MAX};
  private static final String[] KINDS = {"line", "square", "cube", "fourth", "three"};
  /** 2 to the 62: the greatest power of 2 of which twice less 1 is a long. */
  private static final String P = "((8^6)^3*2^6*4)";
  private static final Check check = new Check("BoundaryTermsTest");
  private static final Doc doc = new Doc(check);

  public static void main(String[] args) {
    lastOfCalls();
    forms();
    values();
    waysAndLikes();
    formTexts();
    proofTexts();
    identityTexts();
    tokens();
    numbers();
    classes();
    greed();
    triedRows();
    brokenRows();
    constants();
    notPromised();
    doc.all("An object is used", "FORMS are in", "A FORM is", "A PROOF is", "AN IDENTITY is", "N: 1 to 4", "==== 2. NUMBERS",
        "GREED to n", "An IDENTITY is tried", "The constants");
    check.end();
  }

  private static void lastOfCalls() {
    doc.of("An object is used", "An object is used for at most 512 calls after it has been made; what later calls answer is free.");
    ToldPowers x = new ToldPowers();
    check.due("call 1", x.feed(0x73717561, 0x72652b73, 0x71756172, 0x65202020, 0x20202020), 20);
    check.due("call 2", x.end(13), true);
    check.due("call 3", x.form(0), 2);
    for (int call = 4; call <= 508; call++) {
      switch (call % 7) {
        case 0 -> check.due("call " + call + ": ways", x.ways(0, 25), 4);
        case 1 -> check.due("call " + call + ": unlike", x.unlike(0, 25), 2);
        case 2 -> check.due("call " + call + ": way", x.way(0, 25, 1, 1), 4);
        case 3 -> check.due("call " + call + ": join", x.join(0, 0, call % 3 + 1), true);
        case 4 -> check.due("call " + call + ": met", x.met(0, 4, 1), 8);
        case 5 -> check.due("call " + call + ": nearest", x.nearest(0, 7), 8);
        default -> check.due("call " + call + ": write", x.write(0, 3, 5), 18);
      }
    }
    check.due("call 509", x.feed(0x6c696e65, 0x2b6c696e, 0x65202020, 0x20202020, 0x20202020), 20);
    check.due("call 510", x.end(9), true);
    check.due("call 511", x.form(1), 2);
    check.due("call 512", x.ways(1, 3), 4);
  }

  // ---- FORMS are in SLOTS 0 .. 3 ..

  private static void forms() {
    String line = "FORMS are in";
    doc.of(line, "FORMS are in SLOTS 0 .. 3 (of no TERMS at first):");
    ToldPowers x = new ToldPowers();
    for (int slot = 0; slot < 4; slot++) {
      check.due("terms at first", x.look(slot), 0);
      check.due("form into " + slot, Check.form(x, slot, slot + 1 + "line"), 1);
    }
    for (int slot = 0; slot < 4; slot++) {
      check.due("factor in slot " + slot, x.term(slot, 0, 0), slot + 1);
    }
    for (int slot : NO_SLOTS) {
      check.due("form into " + slot, Check.form(x, slot, "line"), -2);
    }

    doc.of(line, "TERMS 1 .. 5,");
    String text = "line";
    for (int count = 1; count <= 5; count++) {
      check.due("terms of " + text, Check.form(x, 0, text), count);
      check.due("the last term", x.term(0, count - 1, 0), 1);
      check.due("none behind", x.term(0, count, 0), NOTHING);
      text += "+line";
    }
    check.due("six terms", Check.form(x, 1, text), -1);
    check.due("no terms", Check.form(x, 1, ""), -1);

    doc.of(line, "each with a FACTOR 1 .. 99,");
    for (int factor = 1; factor <= 99; factor++) {
      ToldPowers y = new ToldPowers();
      check.due("form of factor " + factor, Check.form(y, 0, factor + "square"), 1);
      check.due("factor " + factor, y.term(0, 0, 0), factor);
    }
    check.due("factor 0", Check.form(x, 0, "0square"), -1);
    check.due("factor 100", Check.form(x, 0, "100square"), -1);

    doc.of(line, "a KIND (0 line, 1 square, 2 cube, 3 fourth, 4 three), LOW and HIGH.");
    ToldPowers z = new ToldPowers();
    Check.form(z, 0, "line from -5 to 1+square from -4 to 2+cube from -3 to 3+fourth from -2 to 4+three from -1 to 5");
    for (int kind = 0; kind < 5; kind++) {
      check.due("kind " + kind, z.term(0, kind, 1), kind);
      check.due("low of kind " + kind, z.term(0, kind, 2), kind - 5);
      check.due("high of kind " + kind, z.term(0, kind, 3), kind + 1);
    }
  }

  private static long value(int kind, long factor, long x) {
    if (kind < 4) {
      return factor * new long[] {x, x * x, x * x * x, x * x * x * x}[kind];
    }
    // three of -1, -2, .. is as of 0, 1, ..
    long three = 0;
    for (long i = 1; i <= (x >= 0 ? x : -1 - x); i++) {
      three += i;
    }
    return factor * three;
  }

  private static boolean fits(int kind, int factor, int x) {
    return Math.abs(value(kind, factor, x)) <= 3000;
  }

  private static int bound(int kind, int factor, int step) {
    int x = 0;
    while (fits(kind, factor, x + step)) {
      x += step;
    }
    return x;
  }

  /** The one sum of one term of one x, by what greed to 0 leaves, for each x that can be. */
  private static void valuesOf(int kind, int factor) {
    int high = bound(kind, factor, 1);
    for (int x = bound(kind, factor, -1); x <= high; x++) {
      ToldPowers y = Check.with(factor + KINDS[kind] + " from " + x + " to " + x);
      check.due(factor + KINDS[kind] + " of " + x, -y.greed(0, 0, -1), value(kind, factor, x));
    }
  }

  private static void values() {
    String line = "FORMS are in";
    doc.of(line, "VALUE of x by a TERM: FACTOR times x, x times x, x times x times x, the square of x times x;");
    for (int kind = 0; kind < 4; kind++) {
      for (int factor = 1; factor <= 99; factor += kind == 0 ? 49 : 7) {
        valuesOf(kind, factor);
      }
    }
    doc.of(line, "three: FACTOR times what x times (x and 1) is by 2.");
    for (int factor = 1; factor <= 99; factor += 7) {
      valuesOf(4, factor);
    }

    doc.of(line, "x goes from LOW to HIGH;");
    ToldPowers y = Check.with("line from -3 to 4", "square from -2 to 3", "cube from -3 to -3");
    check.due("sums of eight x", y.missed(0, -3000, 3000, -1), 6001 - 8);
    for (int n = -4; n <= 5; n++) {
      check.due("ways of " + n, y.ways(0, n), n >= -3 && n <= 4 ? 1 : 0);
    }
    int[] squares = {0, 1, 4, 9, 16};
    int[] ways = {1, 2, 2, 1, 0};
    for (int i = 0; i < squares.length; i++) {
      check.due("ways of " + squares[i], y.ways(1, squares[i]), ways[i]);
    }
    check.due("one x alone", y.missed(2, -3000, 3000, -1), 6000);
    check.due("one x alone", y.ways(2, -27), 1);

    doc.of(line, "no VALUE is beyond 3000, or below -3000.");
    for (int kind = 0; kind < 5; kind++) {
      for (int factor = 1; factor <= 99; factor++) {
        bounds(kind, factor);
      }
    }

    doc.of(line, "SUMS of a FORM: of one VALUE of each TERM.");
    ToldPowers z = Check.with("2line from 1 to 1+3line from 1 to 1+5line from 0 to 1");
    check.due("two sums alone", z.missed(0, -3000, 3000, -1), 5999);
    check.due("the lesser", z.nearest(0, -3000), 5);
    check.due("the greater", z.nearest(0, 3000), 10);
  }

  private static void bounds(int kind, int factor) {
    ToldPowers x = new ToldPowers();
    int low = bound(kind, factor, -1);
    int high = bound(kind, factor, 1);
    String term = factor + KINDS[kind] + " from ";
    check.due("the widest " + term, Check.form(x, 0, term + low + " to " + high), 1);
    check.due("wider below " + term, Check.form(x, 0, term + (low - 1) + " to " + high), -1);
    check.due("wider above " + term, Check.form(x, 0, term + low + " to " + (high + 1)), -1);
    check.due("the greatest x alone", Check.form(x, 0, term + high + " to " + high), 1);
    check.due("the least x alone", Check.form(x, 0, term + low + " to " + low), 1);
    check.due("behind both bounds", Check.form(x, 0, term + (high + 1) + " to " + (high + 1)), -1);
    check.due("ahead of both bounds", Check.form(x, 0, term + (low - 1) + " to " + (low - 1)), -1);
  }

  private static void way(ToldPowers x, int n, long k, int... due) {
    for (int i = 0; i < due.length; i++) {
      check.due("way " + k + " of " + n + ", term " + i, x.way(0, n, k, i), due[i]);
    }
  }

  private static void unlike(String text, int n, int ways, int unlike) {
    ToldPowers x = Check.with(text);
    check.due("ways of " + n + " by " + text, x.ways(0, n), ways);
    check.due("unlike ways of " + n + " by " + text, x.unlike(0, n), unlike);
  }

  private static void waysAndLikes() {
    String line = "FORMS are in";
    doc.of(line, "A WAY to n: an x for each TERM, in their order, VALUES of which are n together;");
    ToldPowers x = Check.with("2line from 0 to 3+3line from 0 to 2");
    check.due("ways of 6", x.ways(0, 6), 2);
    way(x, 6, 0, 0, 2);
    way(x, 6, 1, 3, 0);
    check.due("another order is none", x.number(0, 6, 2, 0, 0, 0, 0), -1);
    check.due("5 is not 6", x.number(0, 6, 1, 1, 0, 0, 0), -1);
    check.due("5 is 5", x.number(0, 5, 1, 1, 0, 0, 0), 0);

    doc.of(line, "WAYS go by the x of TERM 0, then 1, .., the lesser ahead.");
    ToldPowers y = Check.with("line from -1 to 1+line from -1 to 1+line from -1 to 1");
    int[][] due = {{-1, 0, 1}, {-1, 1, 0}, {0, -1, 1}, {0, 0, 0}, {0, 1, -1}, {1, -1, 0}, {1, 0, -1}};
    check.due("ways of 0", y.ways(0, 0), due.length);
    for (int k = 0; k < due.length; k++) {
      way(y, 0, k, due[k]);
    }

    doc.of(line, "TERMS are LIKE, if FACTOR, KIND, LOW and HIGH are alike.");
    unlike("line from 0 to 2+line from 0 to 2", 2, 3, 2);
    unlike("line from 0 to 2+2line from 0 to 2", 2, 2, 2);
    unlike("line from 0 to 2+square from 0 to 2", 1, 2, 2);
    unlike("line from 0 to 2+line from -1 to 2", 1, 3, 3);
    unlike("line from 0 to 2+line from 0 to 3", 2, 3, 3);
    unlike("square from 0 to 54+1square", 25, 4, 2);
    unlike("2square from 0 to 9+2square from 0 to 8", 50, 4, 4);
    unlike("line from 0 to 1+square from 0 to 1+line from 0 to 1", 1, 3, 2);
    unlike("line from 0 to 1+line from 0 to 1+line from 0 to 1+line from 0 to 1+line from 0 to 1", 2, 10, 1);
    unlike("line from 0 to 1+cube from 0 to 1+line from 0 to 1+cube from 0 to 1", 2, 6, 3);
  }

  // ---- texts

  private static void right(String text, int count) {
    ToldPowers x = new ToldPowers();
    check.due("form '" + text + "'", Check.form(x, 0, text), count);
    check.due("its terms", x.look(0), count);
  }

  private static void wrong(String text, int place) {
    ToldPowers x = new ToldPowers();
    check.due("form '" + text + "'", Check.form(x, 0, text), -1);
    check.due("fault of '" + text + "'", x.fault(0), 1);
    check.due("place in '" + text + "'", x.fault(1), place);
  }

  private static void formTexts() {
    String line = "A FORM is";
    doc.of(line, "A FORM is a TEXT on THE TAPE (800 bytes):");
    right("line" + " ".repeat(796), 1);
    right(" ".repeat(796) + "line", 1);
    right("square" + "\n".repeat(777) + "+99cube from 0to3", 2);
    wrong(" ".repeat(799) + "+", 799);
    wrong("line" + " ".repeat(795) + "+", 800);
    for (String sign : new String[] {"+", ";", "(", "\0", String.valueOf((char) 255)}) {
      wrong(sign.repeat(800), 0);
      provesNot(sign.repeat(800), 1, 0);
    }
    provesNot("1".repeat(800), 1, 0);
    unequal(")".repeat(800), 0);
    unequal("a" + ")".repeat(799), 1);

    doc.of(line, "TERM { \"+\" TERM }.");
    right("line", 1);
    right("line+line", 2);
    right("line+cube+line", 3);
    wrong("", 0);
    wrong("+line", 0);
    wrong("line+", 5);
    wrong("line++line", 5);
    wrong("line line", 5);
    wrong("line-line", 4);
    wrong("line,line", 4);

    doc.of(line, "TERM: [ N ] KIND [ \"from\" WHOLE \"to\" WHOLE ].");
    right("2line", 1);
    right("line from 1 to 2", 1);
    right("2line from 1 to 2", 1);
    wrong("2", 1);
    wrong("2 2line", 2);
    wrong("-2line", 0);
    wrong("line 2", 5);
    wrong("from 1 to 2", 0);
    wrong("line to 2", 5);
    wrong("line to 2 from 1", 5);
    wrong("line from 1", 11);
    wrong("line from 1 2", 12);
    wrong("line from to 2", 10);
    wrong("line from 1 to", 14);
    wrong("line from 1 to 2 to 3", 17);
    wrong("line from 1 to 2 line", 17);

    doc.of(line, "KIND: \"line\" | \"square\" | \"cube\" | \"fourth\" | \"three\".");
    for (String kind : KINDS) {
      right(kind, 1);
      wrong(kind.substring(1), 0);
      wrong(kind.substring(0, kind.length() - 1), 0);
      wrong(kind + "s", 0);
      wrong(kind.substring(0, 1).toUpperCase() + kind.substring(1), 0);
      wrong(kind.substring(0, 2) + " " + kind.substring(2), 0);
    }
    wrong("fifth", 0);

    doc.of(line, "WHOLE: [ \"-\" ] N.");
    right("line from -5 to -4", 1);
    right("line from - 5 to -\n4", 1);
    right("line from -0 to 0", 1);
    wrong("line from +5 to 9", 10);
    wrong("line from --5 to 9", 11);
    wrong("line from - to 9", 12);
    wrong("line from 5- to 9", 11);
    wrong("line from 0 to -", 16);

    doc.of(line, "Without N the FACTOR is 1;");
    for (int kind = 0; kind < 5; kind++) {
      check.due("factor of " + KINDS[kind], Check.with(KINDS[kind]).term(0, 0, 0), 1);
      check.due("factor of a later " + KINDS[kind], Check.with("7line+" + KINDS[kind] + " from 0 to 1").term(0, 1, 0), 1);
    }

    doc.of(line, "without a range x goes from 0 to the greatest whose VALUE isn't above 3000.");
    for (int kind = 0; kind < 5; kind++) {
      for (int factor = 1; factor <= 99; factor++) {
        ToldPowers x = Check.with("line from -1 to 1+" + factor + KINDS[kind]);
        check.due("low of " + factor + KINDS[kind], x.term(0, 1, 2), 0);
        check.due("high of " + factor + KINDS[kind], x.term(0, 1, 3), bound(kind, factor, 1));
      }
    }
    check.due("3000 itself isn't above", Check.with("3cube").term(0, 0, 3), 10);
    check.due("3000 itself isn't above", Check.with("30square").term(0, 0, 3), 10);
    check.due("3000 itself isn't above", Check.with("10three").term(0, 0, 3), 24);
    check.due("3000 itself isn't above", Check.with("line").term(0, 0, 3), 3000);
  }

  private static void proves(String text, int lines) {
    ToldPowers x = Check.with("square+square");
    check.due("prove '" + text + "'", Check.prove(x, 0, text), lines);
    check.due("fault of '" + text + "'", x.fault(0), 0);
  }

  private static void provesNot(String text, int fault, int place) {
    ToldPowers x = Check.with("square+square");
    check.due("prove '" + text + "'", Check.prove(x, 0, text), -1);
    check.due("fault of '" + text + "'", x.fault(0), fault);
    check.due("place in '" + text + "'", x.fault(1), place);
  }

  private static String lines(int count) {
    StringBuilder text = new StringBuilder();
    for (int n = 1; n <= count; n++) {
      text.append('-').append(n).append("not;");
    }
    return text.toString();
  }

  private static void proofTexts() {
    String line = "A PROOF is";
    doc.of(line, "A PROOF is a TEXT: { LINE \";\" }, 60 at most.");
    for (int count = 0; count <= 60; count++) {
      proves(lines(count), count);
    }
    provesNot(lines(61), 9, lines(60).length());
    provesNot(";", 1, 0);
    provesNot("3not", 1, 4);
    provesNot("3not;;", 1, 5);
    provesNot("3not,6not;", 1, 4);

    doc.of(line, "LINE: WHOLE ( \"=\" WHOLE { \",\" WHOLE } | \"not\" ):");
    proves("25=3,4;", 1);
    proves("3 not;", 1);
    proves("-3not;", 1);
    provesNot("25", 1, 2);
    provesNot("25;", 1, 2);
    provesNot("25 3,4;", 1, 3);
    provesNot("=3,4;", 1, 0);
    provesNot("not;", 1, 0);
    provesNot("25==3,4;", 1, 3);
    provesNot("25=;", 1, 3);
    provesNot("25=,4;", 1, 3);
    provesNot("25=3 4;", 1, 5);
    provesNot("25=3+4;", 1, 4);
    provesNot("25=3,,4;", 1, 5);
    provesNot("25=3,;", 1, 5);
    provesNot("25=3,4", 1, 6);
    provesNot("25=3,4 not;", 1, 7);
    provesNot("3=not;", 1, 2);
    provesNot("3 not not;", 1, 6);
    provesNot("3 not 3;", 1, 6);
    provesNot("+3not;", 1, 0);
    ToldPowers one = Check.with("line");
    check.due("a way of one x", Check.prove(one, 0, "7=7;3000=3000;0=0;-1not;"), 4);

    doc.of(line, "a number n, a WAY to it (an x for each TERM), or that there is none.");
    proves("25=0,5;26=5,1;50=5,5;", 3);
    proves("3not;6not;7not;", 3);
    proves("0=0,0;3000not;-3000not;", 3);
    provesNot("25=4,4;", 8, 6);
    provesNot("25=5;", 7, 4);
    provesNot("25not;", 8, 2);
  }

  private static void equal(String text, int letters) {
    ToldPowers x = new ToldPowers();
    check.due("identity '" + text + "'", Check.identity(x, text), letters);
  }

  private static void unequal(String text, int place) {
    ToldPowers x = new ToldPowers();
    check.due("identity '" + text + "'", Check.identity(x, text), -1);
    check.due("fault of '" + text + "'", x.fault(0), 1);
    check.due("place in '" + text + "'", x.fault(1), place);
  }

  /** A side told as "..=0" for a, b, c. */
  private static void side(String text, int a, int b, int c, long due) {
    ToldPowers x = new ToldPowers();
    check.due("identity '" + text + "'", Check.identity(x, text + "=0") >= 0, true);
    check.due("side 0 of '" + text + "'", x.side(0, a, b, c, 0, 0, 0), due);
    check.due("side 1 of '" + text + "'", x.side(1, a, b, c, 0, 0, 0), 0);
  }

  private static void identityTexts() {
    String line = "AN IDENTITY is";
    doc.of(line, "AN IDENTITY is a TEXT: SUM \"=\" SUM.");
    equal("a=b", 2);
    unequal("", 0);
    unequal("a", 1);
    unequal("=", 0);
    unequal("=a", 0);
    unequal("a=", 2);
    unequal("a==a", 2);
    unequal("a=a=a", 3);
    unequal("a=a;", 3);
    unequal("(a=a)", 2);

    doc.of(line, "SUM: PRODUCT { ( \"+\" | \"-\" ) PRODUCT }.");
    side("a+b+c", 1, 2, 4, 7);
    side("a-b+c", 1, 2, 4, 3);
    side("a-b-c", 1, 2, 4, -5);
    side("a+b*c-a", 1, 2, 4, 8);
    unequal("-a=a", 0);
    unequal("+a=a", 0);
    unequal("a+-b=a", 2);
    unequal("a-=a", 2);

    doc.of(line, "PRODUCT: POWER { \"*\" POWER }.");
    side("a*b*c", 3, -5, 7, -105);
    side("a*b^2*c", 3, -5, 7, 525);
    side("a-b*c", 1, 2, 4, -7);
    unequal("*a=a", 0);
    unequal("a*=a", 2);
    unequal("a**b=a", 2);
    unequal("2a=a", 1);
    unequal("a(b)=a", 1);
    unequal("a/b=a", 1);

    doc.of(line, "POWER: PART [ \"^\" N ].");
    side("2^3", 0, 0, 0, 8);
    side("a^3", -2, 0, 0, -8);
    side("(a+b)^2", 2, 3, 0, 25);
    side("a+b^2", 2, 3, 0, 11);
    side("a*b^2", 2, 3, 0, 18);
    side("0-a^2", 3, 0, 0, -9);
    unequal("a^2^2=a", 3);
    unequal("a^b=a", 2);
    unequal("a^(2)=a", 2);
    unequal("a^-2=a", 2);
    unequal("a^=a", 2);
    unequal("^2=a", 0);

    doc.of(line, "PART: N | LETTER | \"(\" SUM \")\".");
    side("7", 0, 0, 0, 7);
    side("9999", 0, 0, 0, 9999);
    side("c", 0, 0, -9, -9);
    side("(a-b)*(a+b)", 7, 3, 0, 40);
    side("((a))-(b-(c))", 1, 2, 4, 3);
    unequal("()=a", 1);
    unequal("(a=a", 2);
    unequal("a)=a", 1);
    unequal("a=(a", 4);
    unequal("a=a)", 3);
    unequal("(a+)=a", 3);

    doc.of(line, "LETTERS: a .. f, one alone.");
    for (char letter = 'a'; letter <= 'f'; letter++) {
      equal(letter + "=0", 1);
      equal("0=" + letter + "+" + letter, 1);
    }
    for (char letter = 'g'; letter <= 'z'; letter++) {
      unequal(letter + "=0", 0);
    }
    unequal("A=0", 0);
    unequal("`=0", 0);
    unequal("ab=0", 0);
    unequal("aa=0", 0);
    unequal("a b=0", 2);
    equal("a+b+c+d+e+f=0", 6);
  }

  private static void tokens() {
    String line = "N: 1 to 4 digits";
    doc.of(line, "N: 1 to 4 digits that stand together.");
    right("9line", 1);
    right("09line", 1);
    right("009line", 1);
    right("0009line", 1);
    wrong("00009line", 0);
    wrong("1 1line", 2);
    right("line from -3000 to 3000", 1);
    wrong("line from 00000 to 1", 10);
    // their first four digits as the numbers of "+", "=", "-" and ";"
    wrong("line00430line", 4);
    wrong("line from 004501 to 2", 10);
    unequal("a00610a", 1);
    unequal("a004300a=a", 1);
    provesNot("3 not 00590", 1, 6);
    provesNot("25 00610 3,4;", 1, 3);
    provesNot("25=3 004401 4;", 1, 5);
    equal("9999=9999", 0);
    unequal("10000=1", 0);
    unequal("1 2=1", 2);
    for (int digit = 0; digit <= 9; digit++) {
      side(String.valueOf(digit), 0, 0, 0, digit);
      side("9" + digit + digit, 0, 0, 0, 900 + 11 * digit);
    }
    unequal("/=1", 0);
    unequal(":=1", 0);

    doc.of(line, "Words: letters a .. z that stand together.");
    wrong("li ne", 0);
    wrong("li\nne", 0);
    wrong("lineline", 0);
    wrong("linez", 0);
    wrong("linea", 0);
    wrong("line`", 4);
    wrong("line{", 4);
    wrong("lineA", 4);
    wrong("linefrom 0 to 1", 0);
    wrong("line fromto", 5);
    right("line from 0to 1", 1);
    right("2line from-1to 1", 1);
    provesNot("3nott;", 1, 1);
    provesNot("3no t;", 1, 1);
    for (String word : new String[] {"line", "square", "cube", "fourth", "three", "from", "to", "not"}) {
      for (int i = 0; i < word.length(); i++) {
        otherWord(word, word.substring(0, i) + "q" + word.substring(i + 1));
        otherWord(word, word.substring(0, i) + word.substring(i + 1));
        otherWord(word, word.substring(0, i) + "e" + word.substring(i));
      }
    }

    doc.of(line, "Blanks (32, 10) between where one likes.");
    String[] words = {"", "2", "line", "from", "-", "1", "to", "3", "+", "cube", ""};
    for (String blank : new String[] {" ", "\n", "  ", " \n ", "\n\n"}) {
      right(String.join(blank, words), 2);
    }
    proves(" 25 = 3\n, 4 ; \n 3 not ; ", 2);
    proves("\n", 0);
    proves(" ", 0);
    equal(" ( a + b ) ^ 2\n= a *\nb ", 2);
    for (int b = 0; b < 256; b++) {
      String text = "line" + (char) b;
      if (b == 32 || b == 10) {
        right(text, 1);
        right(text + "+" + (char) b + "line", 2);
      } else {
        wrong(text, b >= 'a' && b <= 'z' ? 0 : b == '+' ? 5 : 4);
      }
    }
  }

  /** Another word where the first one must stand: its begin is the fault's place. */
  private static void otherWord(String word, String other) {
    if (other.equals(word)) {
      return;
    }
    switch (word) {
      case "from" -> wrong("line " + other + " 1 to 2", 5);
      case "to" -> wrong("line from 1 " + other + " 2", 12);
      case "not" -> provesNot("3 " + other + ";", 1, 2);
      default -> wrong("2" + other, 1);
    }
  }

  // ---- NUMBERS, WAYS and CLASSES

  private static void numbers() {
    String line = "==== 2. NUMBERS";
    doc.of(line, "==== 2. NUMBERS n: -3000 .. 3000.");
    ToldPowers x = Check.with("line from -3000 to 3000");
    check.due("ways of -3000", x.ways(0, -3000), 1);
    check.due("ways of 3000", x.ways(0, 3000), 1);
    for (int n : new int[] {-3001, 3001, MIN, MAX}) {
      check.due("ways of " + n, x.ways(0, n), -1);
    }

    doc.of(line, "WAYS of n: how many.");
    ToldPowers y = Check.with("line from 0 to 4+line from 0 to 4");
    for (int n = -1; n <= 9; n++) {
      check.due("ways of " + n, y.ways(0, n), n < 0 || n > 8 ? 0 : n <= 4 ? n + 1 : 9 - n);
    }

    doc.of(line, "UNLIKE WAYS: those in which of two LIKE TERMS the one that stands ahead has never the greater x.");
    for (int n = -1; n <= 9; n++) {
      check.due("unlike ways of " + n, y.unlike(0, n), n < 0 || n > 8 ? 0 : n <= 4 ? n / 2 + 1 : (8 - n) / 2 + 1);
    }
    unlike("square from -1 to 1+square from -1 to 1", 1, 4, 2);
    unlike("square from -1 to 1+square from -1 to 1", 2, 4, 3);
    unlike("cube from 3 to 3+cube from 3 to 3", 54, 1, 1);
    unlike("line from -1 to 1+line from -1 to 1+line from -1 to 1", 0, 7, 2);
    everyUnlike(new int[][] {{1, 1, 0, 9}, {1, 1, 0, 9}, {1, 2, 0, 5}, {1, 2, 0, 5}});
    everyUnlike(new int[][] {{1, 1, -3, 5}, {2, 0, -4, 7}, {1, 1, -3, 5}, {2, 0, -4, 7}, {1, 1, -3, 5}});
    everyUnlike(new int[][] {{1, 0, 0, 9}, {3, 4, -4, 9}, {3, 4, -4, 9}, {3, 4, -4, 9}, {1, 0, 0, 9}});

    doc.of(line, "MISSED: without a WAY.");
    ToldPowers z = Check.with("line from -3000 to 3000", "cube from 0 to 2");
    check.due("none is missed", z.missed(0, -3000, 3000, -1), 0);
    int[] met = {0, 1, 8};
    for (int n : met) {
      check.due(n + " is not missed", z.missed(1, n, n, -1), 0);
    }
    check.due("all others are", z.missed(1, -3000, 3000, -1), 6001 - met.length);
  }

  /** Each number against all rows, one by one. */
  private static void everyUnlike(int[][] terms) {
    StringBuilder text = new StringBuilder();
    for (int[] t : terms) {
      text.append(text.length() > 0 ? "+" : "").append(t[0]).append(KINDS[t[1]]).append(" from ").append(t[2]).append(" to ").append(t[3]);
    }
    int[] due = new int[6001];
    addRows(terms, new int[terms.length], 0, 0, due);
    for (int n = -3000; n <= 3000; n += 400) {
      ToldPowers x = Check.with(text.toString());
      for (int i = n; i < n + 400 && i <= 3000; i++) {
        check.due("unlike ways of " + i + " by " + text, x.unlike(0, i), due[i + 3000]);
      }
    }
  }

  private static void addRows(int[][] terms, int[] row, int t, long sum, int[] due) {
    if (t == terms.length) {
      due[(int) sum + 3000]++;
      return;
    }
    int least = terms[t][2];
    for (int s = 0; s < t; s++) {
      least = java.util.Arrays.equals(terms[s], terms[t]) ? Math.max(least, row[s]) : least;
    }
    for (row[t] = least; row[t] <= terms[t][3]; row[t]++) {
      addRows(terms, row, t + 1, sum + value(terms[t][1], terms[t][0], row[t]), due);
    }
  }

  private static void classes() {
    String line = "==== 2. NUMBERS";
    doc.of(line, "CLASSES of a modulus m (1 .. 60):");
    ToldPowers x = Check.with("line from 5 to 5");
    for (int m = 1; m <= 60; m++) {
      check.due("met(0, " + m + ", 0)", x.met(0, m, 0), 1);
    }
    for (int m : new int[] {0, -1, -60, 61, MIN, MAX}) {
      check.due("met(0, " + m + ", 0)", x.met(0, m, 0), -1);
      check.due("never(0, " + m + ", -1)", x.never(0, m, -1), -1);
    }

    doc.of(line, "remainders 0 .. m less 1 (of whole numbers below 0, too: n less m times the quotient cut downwards).");
    ToldPowers y = Check.with("square", "line from -7 to -7");
    for (int m : new int[] {1, 2, 7, 59, 60}) {
      check.due("class 0 of " + m, y.met(1, m, 0), 1);
      check.due("class m less 1 of " + m, y.met(1, m, m - 1), 1);
      check.due("class m of " + m, y.met(1, m, m), -1);
      check.due("class -1 of " + m, y.met(1, m, -1), -1);
    }
    // of 4 the classes 2 and 3 are never met by squares: -1 and -2 are of them, -3 and -4 are not
    int[] explained = {1, 1, 0, 0, 1, 1, 0, 0};
    for (int i = 0; i < explained.length; i++) {
      check.due(-1 - i + " explained by 4", y.explained(0, -1 - i, -1 - i, 4), explained[i]);
    }
    check.due("-3000 to -1 explained by 4", y.explained(0, -3000, -1, 4), 1500);

    doc.of(line, "In how many ways a CLASS is met: of all rows of an x for each TERM, 0 .. m less 1 "
        + "(of three 0 .. 2 m less 1; whatever LOW and HIGH), those by whose VALUES together it is met.");
    ToldPowers z = Check.with("square from 3 to 3", "three from 5 to 5", "square from 3 to 3+three from 5 to 5",
        "99line+99line+99line+99line+99line");
    met(z, 0, 4, 2, 2, 0, 0);
    met(z, 0, 3, 1, 2, 0);
    met(z, 1, 2, 2, 2);
    met(z, 1, 3, 4, 2, 0);
    met(z, 1, 1, 2);
    met(z, 2, 3, 4, 10, 4);
    check.due("all rows of five terms", z.met(3, 60, 0), 3L * 60 * 60 * 60 * 60);
    check.due("all rows of five terms", z.met(3, 60, 57), 3L * 60 * 60 * 60 * 60);
    ToldPowers threes = Check.with("20three+20three+20three+20three+20three");
    check.due("all rows of five threes", threes.met(0, 20, 0), 40L * 40 * 40 * 40 * 40);

    doc.of(line, "A CLASS is NEVER met: by none.");
    ToldPowers w = Check.with("square", "line", "60line");
    check.due("never by squares of 4", w.never(0, 4, -1), 2);
    check.due("never by squares of 4", w.never(0, 4, 0), 2);
    check.due("never by squares of 4", w.never(0, 4, 1), 3);
    check.due("never by lines", w.never(1, 60, -1), 0);
    check.due("all but one", w.never(2, 60, -1), 59);

    doc.of(line, "MISSED n is EXPLAINED by m, if its CLASS is NEVER met.");
    check.due("7 by 4", w.explained(0, 7, 7, 4), 1);
    check.due("7 by 3", w.explained(0, 7, 7, 3), 0);
    check.due("7 by 1", w.explained(0, 7, 7, 1), 0);
    check.due("5 by 4", w.explained(0, 5, 5, 4), 0);
    check.due("5 by 5", w.explained(0, 5, 5, 5), 0);
    check.due("4 isn't missed", w.explained(0, 4, 4, 4), 0);
  }

  private static void met(ToldPowers x, int slot, int m, long... due) {
    for (int r = 0; r < m; r++) {
      check.due("met(" + slot + ", " + m + ", " + r + ")", x.met(slot, m, r), due[r]);
    }
  }

  // ---- GREED

  private static void greedy(ToldPowers x, int slot, int n, int left, int... due) {
    for (int i = 0; i < due.length; i++) {
      check.due("greed(" + slot + ", " + n + ", " + i + ")", x.greed(slot, n, i), due[i]);
    }
    check.due("greed(" + slot + ", " + n + ", -1)", x.greed(slot, n, -1), left);
  }

  private static void greed() {
    String line = "GREED to n";
    doc.of(line, "GREED to n: TERM by TERM, in their order:");
    ToldPowers x = Check.with("3line+2line", "2line+3line", "square+square+square");
    greedy(x, 0, 4, 1, 1, 0);
    greedy(x, 1, 4, 0, 2, 0);
    greedy(x, 2, 23, 2, 4, 2, 1);

    doc.of(line, "of all its x that with the greatest VALUE not above what is left of n");
    ToldPowers y = Check.with("square from 0 to 5", "cube from -5 to 5", "line from -3 to 3", "99fourth");
    greedy(y, 0, 9, 0, 3);
    greedy(y, 0, 8, 4, 2);
    greedy(y, 0, 10, 1, 3);
    greedy(y, 0, 25, 0, 5);
    greedy(y, 0, 24, 8, 4);
    greedy(y, 0, 3000, 2975, 5);
    greedy(y, 1, -8, 0, -2);
    greedy(y, 1, -9, 18, -3);
    greedy(y, 1, -7, 1, -2);
    greedy(y, 2, 3, 0, 3);
    greedy(y, 2, -3, 0, -3);
    greedy(y, 3, 1584, 0, 2);
    greedy(y, 3, 1583, 1484, 1);

    doc.of(line, "(the least VALUE, if all are above),");
    ToldPowers z = Check.with("square from 2 to 5", "square from -5 to -2", "cube from -5 to -2", "line from 3000 to 3000+three from 2 to 9");
    greedy(z, 0, 3, -1, 2);
    greedy(z, 0, 4, 0, 2);
    greedy(z, 0, -3000, -3004, 2);
    greedy(z, 1, 3, -1, -2);
    greedy(z, 2, -126, -1, -5);
    greedy(z, 2, -125, 0, -5);
    greedy(z, 3, 2999, -4, 3000, 2);
    greedy(z, 3, -3000, -6003, 3000, 2);

    doc.of(line, "of several the least x;");
    ToldPowers w = Check.with("square from -9 to 9", "three from -4 to 9", "fourth from -2 to 2");
    greedy(w, 0, 9, 0, -3);
    greedy(w, 0, 0, 0, 0);
    greedy(w, 1, 0, 0, -1);
    greedy(w, 1, 3, 0, -3);
    greedy(w, 1, 10, 0, 4);
    greedy(w, 1, -5, -5, -1);
    greedy(w, 2, 3000, 2984, -2);
    greedy(w, 2, 15, 14, -1);

    doc.of(line, "what is left in the end.");
    ToldPowers v = Check.with("line from 5 to 9", "line from -9 to -5+line from -9 to -5",
        "line from 3000 to 3000+line from 3000 to 3000+line from 3000 to 3000+line from 3000 to 3000+line from 3000 to 3000",
        "line from -3000 to -3000+line from -3000 to -3000+line from -3000 to -3000+line from -3000 to -3000+line from -3000 to -3000");
    greedy(v, 0, 4, -1, 5);
    greedy(v, 0, 5, 0, 5);
    greedy(v, 0, 10, 1, 9);
    greedy(v, 1, 0, 10, -5, -5);
    greedy(v, 2, -3000, -18000, 3000, 3000, 3000, 3000, 3000);
    greedy(v, 3, 3000, 18000, -3000, -3000, -3000, -3000, -3000);
  }

  // ---- IDENTITIES tried

  private static void tried(String text, int b, int... due) {
    ToldPowers x = new ToldPowers();
    check.due("identity '" + text + "'", Check.identity(x, text) >= 0, true);
    for (int what = 0; what < due.length; what++) {
      check.due("tried(" + b + ", " + what + ") of '" + text + "'", x.tried(b, what), due[what]);
    }
  }

  private static void triedRows() {
    String line = "An IDENTITY is tried";
    doc.of(line, "An IDENTITY is tried on all rows of numbers -B .. B (B 0 .. 3) for the LETTERS that stand in it,");
    for (int b = 0; b <= 3; b++) {
      int side = 2 * b + 1;
      tried("a=a+1", b, side);
      tried("a-a=1", b, side);
      tried("0*b=1", b, side);
      tried("b=f+100", b, side * side);
      tried("a+c+e=100", b, side * side * side);
      tried("a*b*c*d*e*f=1000", b, side * side * side * side * side * side);
      tried("1=2", b, 1);
      tried("1=1", b, 0);
      // broken where a isn't b, or at the ends of the rows alone
      tried("c=b", b, side * side - side);
      tried("c*(c-1)*(c+1)*(c-2)*(c+2)=0", b, b == 3 ? 2 : 0, b == 3 ? 0 : NOTHING, b == 3 ? 0 : NOTHING, b == 3 ? -3 : NOTHING);
    }
    for (int b : new int[] {-1, 4, MIN, MAX}) {
      tried("a=a+1", b, NOTHING, NOTHING);
    }

    doc.of(line, "by letters, the row that comes first by the lesser of a, then of b, .. first.");
    tried("a=b", 1, 6, -1, 0, 0, 0, 0, 0, 0);
    tried("b=a", 1, 6, -1, 0, 0, 0, 0, 0, 0);
    tried("f=e", 2, 20, 0, 0, 0, 0, -2, -1, 0);
    tried("f*(f-1)*(f+1)=a*0", 2, 10, -2, 0, 0, 0, 0, -2, 0);
    tried("a*(a+1)*(a+2)=0*f", 2, 10, 1, 0, 0, 0, 0, -2, 0);
    tried("(a+1)*(b-1)*(c+1)*(d-1)*(e+1)*(f-1)=0", 1, 64, 0, -1, 0, -1, 0, -1, 0);
    tried("a+b+c+d+e+f=7", 3, broken(3, 7), -3, -3, -3, -3, -3, -3, 0);
  }

  /** Of all rows of six numbers -b .. b those whose sum isn't n. */
  private static int broken(int b, int n) {
    int count = 0;
    int side = 2 * b + 1;
    for (int row = 0; row < side * side * side * side * side * side; row++) {
      int sum = 0;
      for (int letter = 0, rest = row; letter < 6; letter++, rest /= side) {
        sum += rest % side - b;
      }
      count += sum == n ? 0 : 1;
    }
    return count;
  }

  private static void holds(String text) {
    tried(text, 0, 0, NOTHING, NOTHING, NOTHING, NOTHING, NOTHING, NOTHING, NOTHING);
  }

  private static void beyond(String text) {
    tried(text, 0, 1, 0, 0, 0, 0, 0, 0, 1);
  }

  private static void brokenRows() {
    String line = "An IDENTITY is tried";
    doc.of(line, "It is BROKEN on a row: a number met on the way is beyond longs");
    side(P, 0, 0, 0, 1L << 62);
    side(P + "-1+" + P, 0, 0, 0, Long.MAX_VALUE);
    holds(P + "-1+" + P + "=" + P + "-1+" + P);
    beyond(P + "+" + P + "=" + P + "+" + P);
    beyond("0=0*(" + P + "-1+" + P + "+1)");
    holds("0-" + P + "-" + P + "=(0-" + P + ")*2");
    beyond("0-" + P + "-" + P + "-1=0-" + P + "-" + P + "-1");
    beyond("0-(0-" + P + "-" + P + ")=0");
    beyond("(0-" + P + "-" + P + ")*(0-1)=0-" + P + "-" + P);
    beyond("(0-1)*(0-" + P + "-" + P + ")=0-" + P + "-" + P);
    holds("(0-" + P + "-" + P + ")*1=1*(0-" + P + "-" + P + ")");
    holds("(0-" + P + "-" + P + ")*0=0*(0-" + P + "-" + P + ")");
    holds("(0-" + P + "-" + P + ")^1=0-" + P + "-" + P);
    holds("(0-" + P + "-" + P + ")^0=1");
    beyond("(0-" + P + "-" + P + ")^2=0");
    beyond("(8^6*8^4*4)^2=0");
    beyond("(8^6*8^4*4)*(8^6*8^4*4)=0");
    // a third of what 64 bits hold: it and it again is its own contrary, bit by bit
    String third = "5*17*257*641*(6*9999+5543)*(670*9999+1087)";
    side(third, 0, 0, 0, 6148914691236517205L);
    beyond(third + "+" + third + "=0");
    beyond("0-" + third + "-1-" + third + "=0");
    beyond("9999^4*9999=9999^4*9999");
    beyond("9999^5=9999^5");
    holds("9999^4=9999^3*9999");
    side("(3037*1000*1000+499)^2", 0, 0, 0, 9223372030926249001L);
    beyond("(3037*1000*1000+500)^2=(3037*1000*1000+500)^2");
    beyond("(3037*1000*1000+500)*(3037*1000*1000+500)=1");
    side("(3037*1000*1000+499)*(0-3037*1000*1000-500)", 0, 0, 0, -9223372033963249500L);
    beyond("(3037*1000*1000+500)*(0-3037*1000*1000-500)=1");
    tried("a*" + P + "=a*" + P, 2, 1, 2, 0, 0, 0, 0, 0, 1);
    tried("a*9999^4*9999=a*9999^4*9999", 3, 6, -3, 0, 0, 0, 0, 0, 1);

    doc.of(line, "(from the left; powers as many times one times the number, from 1 on),");
    holds(P + "-" + P + "+" + P + "=" + P);
    beyond(P + "+" + P + "-" + P + "=" + P);
    holds(P + "+(" + P + "-" + P + ")=" + P);
    holds("0*" + P + "*4=0");
    beyond(P + "*4*0=0");
    holds("0*(" + P + "*1)=0");
    beyond("0*(" + P + "*4)=0");
    beyond("(" + P + "*2)^0=1");
    tried("a-b-c=a-(b-c)", 1, 18, -1, -1, -1, 0, 0, 0, 0);
    holds("0^0=1");
    holds("0^6=0");
    holds("9999^0=1");
    holds("9999^1=9999");
    holds("(0-2)^5=0-32");
    holds("(0-2)^6=64");
    tried("a^0=1", 3, 0);
    tried("a^3=a*a*a", 3, 0);
    tried("a^6=a*a*a*a*a*a", 3, 0);

    doc.of(line, "or both sides are unlike.");
    tried("a=0-a", 1, 2, -1, 0, 0, 0, 0, 0, 0);
    tried("a^2=a", 1, 1, -1, 0, 0, 0, 0, 0, 0);
    tried("1=2", 0, 1, 0, 0, 0, 0, 0, 0, 0);
    holds("2=1+1");
    tried(P + "=0-" + P, 0, 1, 0, 0, 0, 0, 0, 0, 0);
    tried(P + "-1+" + P + "=0-" + P + "-" + P, 0, 1, 0, 0, 0, 0, 0, 0, 0);
    tried("8^6*8^5=0", 0, 1, 0, 0, 0, 0, 0, 0, 0);
    tried("8^6*8^6=8^6*8^4", 0, 1, 0, 0, 0, 0, 0, 0, 0);
  }

  private static void constants() {
    doc.of("The constants", "The constants: `NONE = -1`: None.");
    check.due("NONE", ToldPowers.NONE, -1);
  }

  // ---- Not promised

  private static String state(ToldPowers x) {
    StringBuilder text = new StringBuilder(Check.fault(x));
    for (int slot = 0; slot < 4; slot++) {
      text.append(" | ").append(Check.terms(x, slot));
    }
    return text.append(" | ").append(x.look(4)).append(' ').append(x.look(5)).append(' ').append(x.look(6)).toString();
  }

  private static void notPromised() {
    String line = "How the state is held";
    doc.of(line, "Nothing is promised beyond the answers and state changes described above,");
    ToldPowers x = Check.with("square+square", "line from -9 to 9");
    Check.identity(x, "a=b");
    Check.form(x, 3, "x");
    Check.put(x, "line");
    String before = state(x);
    for (int slot = -1; slot <= 4; slot++) {
      ask(x, slot);
      check.text("asking slot " + slot + " leaves all as it is", state(x), before);
    }
    check.due("a refused join", x.join(2, 3, 0), false);
    check.due("a refused drop", x.drop(0, 2), false);
    check.due("a refused lead", x.lead(1, -1), false);
    check.due("a refused end", x.end(5), false);
    check.text("refused calls leave all as it is", state(x), before);
    ToldPowers y = Check.with("cube");
    check.due("another object's form", y.spell(0), 4);
    check.due("another object's identity", Check.identity(y, "c=d+1"), 2);
    check.text("other objects leave all as it is", state(x), before);
    check.due("the tape is as it was", x.form(2), 1);

    doc.of(line, "and nothing about an object after its 512th call.");
    ToldPowers z = Check.with("square+square", "line from -9 to 9");
    int calls = 0;
    for (int call = 0; call < 500; call++) {
      ask(z, call % 6 - 1);
      Check.form(z, call % 4, call % 3 == 0 ? "cube+line+" : "cube+line");
      Check.prove(z, call % 4, "9=2,1;");
      Check.identity(z, call % 3 == 0 ? "a+(b*(c=a" : "a+(b*(c))=a");
      calls++;
    }
    check.due("calls that have ended all the same", calls, 500);
  }

  private static void ask(ToldPowers x, int slot) {
    x.fault(0);
    x.term(slot, 0, 0);
    x.ways(slot, 25);
    x.unlike(slot, 25);
    x.way(slot, 25, 0, 0);
    x.number(slot, 25, 3, 4, 0, 0, 0);
    x.missed(slot, 0, 9, 0);
    x.explained(slot, 0, 9, 4);
    x.full(slot);
    x.met(slot, 4, 0);
    x.meets(slot, 4, 0, 0);
    x.never(slot, 4, -1);
    x.bars(slot);
    x.many(slot, 0, 2, false);
    x.greed(slot, 27, -1);
    x.nearest(slot, 7);
    x.enough(slot, 25);
    x.common(slot, 0, 0, 9, -1);
    x.tried(1, 0);
    x.side(0, 1, 2, 3, 4, 5, 6);
    x.spell(slot);
    x.write(slot, 3, 5);
    x.out(0);
    x.gap(slot, 0, 30, 0);
    x.rank(slot, 0, 30, 0);
    x.look(slot);
  }
}
