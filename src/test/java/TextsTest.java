import java.math.BigInteger;
import java.util.ArrayList;
import java.util.HashSet;
import java.util.List;
import java.util.Set;
import java.util.regex.Matcher;
import java.util.regex.Pattern;

/** Texts, right ones and spoilt ones: all their faults are gathered, then the first by place and number is due. */
public final class TextsTest {
  private static final Check check = new Check("TextsTest");
  private static final String[] KINDS = {"line", "square", "cube", "fourth", "three"};
  private static final String[] POOL = {"0", "1", "2", "5", "6", "7", "99", "100", "3000", "3001", "0007", "12345", "line",
      "square", "three", "from", "to", "not", "=", ";", ",", "-", "+", "(", ")", "^", "*", "a", "b", "f", "g", "ab", "linefrom",
      "x", "A", "\t", "\u00e9", "\u0000", " ", "\n", ""};

  /** Stops a reading where something stands that can't stand there. */
  private static final class Stop extends RuntimeException {
    private static final long serialVersionUID = 1L;
  }

  /** A reading that goes on behind every fault but the first sort. */
  private static final class Reading {
    final List<String> texts = new ArrayList<>();
    final List<Integer> places = new ArrayList<>();
    final List<int[]> faults = new ArrayList<>();
    final List<int[]> terms = new ArrayList<>();
    final Set<Integer> letters = new HashSet<>();
    int at;
    int outer;
    int inner = -1;
    int lines;
    int parts;

    Reading(String text) {
      Matcher m = Pattern.compile("[0-9]+|[a-z]+|[^ \n]", Pattern.DOTALL).matcher(text);
      while (m.find()) {
        texts.add(m.group());
        places.add(m.start());
      }
      texts.add("END");
      places.add(text.length());
    }

    String now() {
      return texts.get(at);
    }

    void fault(int number) {
      faults.add(new int[] {places.get(at), number, outer, inner});
      if (number == 1) {
        throw new Stop();
      }
    }

    boolean take(String token) {
      if (!now().equals(token)) {
        return false;
      }
      at++;
      return true;
    }

    void must(String token) {
      if (!take(token)) {
        fault(1);
      }
    }

    boolean isN() {
      return now().matches("[0-9]{1,4}");
    }

    /** Left at the N, whose place a fault may need. */
    int whole() {
      int sign = take("-") ? -1 : 1;
      if (!isN()) {
        fault(1);
      }
      return sign * Integer.parseInt(now());
    }

    void form() {
      for (int t = 0; ; t++) {
        outer = t;
        if (t == 5) {
          faults.add(new int[] {places.get(at), 4, outer, inner});
        }
        term();
        if (now().equals("END")) {
          return;
        }
        must("+");
      }
    }

    static BigInteger value(int factor, int kind, int x) {
      BigInteger y = BigInteger.valueOf(x);
      BigInteger one = kind < 4 ? y.pow(kind + 1) : y.multiply(y.add(BigInteger.ONE)).shiftRight(1);
      return one.multiply(BigInteger.valueOf(factor));
    }

    static boolean beyond(int factor, int kind, int x) {
      return value(factor, kind, x).abs().compareTo(BigInteger.valueOf(3000)) > 0;
    }

    void term() {
      int factor = 1;
      if (isN()) {
        factor = Integer.parseInt(now());
        if (factor == 0 || factor > 99) {
          fault(2);
          factor = 1;
        }
        at++;
      }
      int kind = List.of(KINDS).indexOf(now());
      if (kind < 0) {
        fault(1);
      }
      at++;
      int low = 0;
      int high = 0;
      while (!beyond(factor, kind, high + 1)) {
        high++;
      }
      if (take("from")) {
        low = whole();
        if (beyond(factor, kind, low)) {
          fault(3);
        }
        at++;
        must("to");
        high = whole();
        if (high < low || beyond(factor, kind, high)) {
          fault(3);
        }
        at++;
      }
      terms.add(new int[] {factor, kind, low, high});
    }

    void proof(ToldPowers x, int slot) {
      Set<Integer> told = new HashSet<>();
      while (!now().equals("END")) {
        outer = lines;
        if (lines >= 60) {
          faults.add(new int[] {places.get(at), 9, outer, inner});
        }
        int n = whole();
        if (Math.abs(n) > 3000 || !told.add(n)) {
          fault(5);
        }
        at++;
        if (now().equals("not")) {
          if (x.ways(slot, n) > 0) {
            fault(8);
          }
          at++;
          must(";");
        } else {
          must("=");
          way(x, slot, n);
        }
        lines++;
        outer = lines;
      }
    }

    void way(ToldPowers x, int slot, int n) {
      int count = x.look(slot);
      int sum = 0;
      int told = 0;
      do {
        inner = told;
        if (told >= count) {
          faults.add(new int[] {places.get(at), 7, outer, inner});
        }
        int v = whole();
        if (told < count && (v < x.term(slot, told, 2) || v > x.term(slot, told, 3))) {
          fault(6);
        } else if (told < count) {
          sum += value(x.term(slot, told, 0), x.term(slot, told, 1), v).intValue();
        }
        at++;
        told++;
        inner = -1;
      } while (take(","));
      if (!now().equals(";")) {
        fault(1);
      }
      if (told < count) {
        fault(7);
      }
      if (sum != n) {
        fault(8);
      }
      at++;
    }

    void identity() {
      inner = 0;
      sum();
      must("=");
      outer = 1;
      sum();
      if (!now().equals("END")) {
        fault(1);
      }
    }

    void sum() {
      do {
        do {
          part();
          if (take("^")) {
            if (!isN()) {
              fault(1);
            }
            if (Integer.parseInt(now()) > 6) {
              fault(10);
            }
            at++;
          }
        } while (take("*"));
      } while (take("+") || take("-"));
    }

    void part() {
      parts++;
      if (parts > 60) {
        faults.add(new int[] {places.get(at), 12, outer, inner});
      }
      if (isN()) {
        at++;
      } else if (now().matches("[a-f]")) {
        letters.add(now().charAt(0) - 'a');
        at++;
      } else if (now().equals("(")) {
        if (inner >= 6) {
          fault(11);
        }
        at++;
        inner++;
        sum();
        if (!now().equals(")")) {
          fault(1);
        }
        at++;
        inner--;
      } else {
        fault(1);
      }
    }

    String due() {
      int[] first = null;
      for (int[] f : faults) {
        if (first == null || f[0] < first[0] || f[0] == first[0] && f[1] < first[1]) {
          first = f;
        }
      }
      return first == null ? "0 -1 -1 -1" : first[1] + " " + first[0] + " " + first[2] + " " + first[3];
    }
  }

  private static String whole(Dice dice, int reach) {
    int n = dice.from(-reach, reach);
    return n < 0 ? "-" + (dice.oneIn(5) ? " " : "") + -n : String.valueOf(n);
  }

  private static List<String> drawForm(Dice dice) {
    List<String> tokens = new ArrayList<>();
    int count = dice.oneIn(8) ? dice.from(5, 6) : dice.from(1, 4);
    for (int t = 0; t < count; t++) {
      if (t > 0) {
        tokens.add("+");
      }
      if (dice.oneIn(2)) {
        tokens.add(String.valueOf(dice.from(1, 99)));
      }
      tokens.add(KINDS[dice.below(5)]);
      if (dice.oneIn(2)) {
        int reach = dice.oneIn(10) ? 80 : 4;
        tokens.addAll(List.of("from", whole(dice, reach), "to", String.valueOf(dice.oneIn(5) ? dice.below(20) : reach)));
      }
    }
    return tokens;
  }

  private static List<String> drawProof(Dice dice, ToldPowers x, int slot) {
    List<String> tokens = new ArrayList<>();
    boolean many = dice.oneIn(6);
    int count = many ? dice.from(58, 62) : dice.from(0, 6);
    int n = many ? -dice.from(3, 300) : dice.from(-60, 200);
    for (int line = 0; line < count; line++) {
      n += many ? -1 : dice.from(1, 30);
      tokens.add(n < 0 ? "-" : "");
      tokens.add(String.valueOf(Math.abs(n)));
      long ways = x.ways(slot, n);
      if (ways == 0) {
        tokens.add("not");
      } else {
        int k = dice.below((int) Math.min(ways, 1000));
        for (int t = 0; t < x.look(slot); t++) {
          tokens.add(t == 0 ? "=" : ",");
          int v = x.way(slot, n, k, t);
          tokens.add(v < 0 ? "-" : "");
          tokens.add(String.valueOf(Math.abs(v)));
        }
      }
      tokens.add(";");
    }
    return tokens;
  }

  private static void drawSum(Dice dice, int open, int more, List<String> tokens) {
    int parts = dice.from(1, more);
    for (int part = 0; part < parts; part++) {
      if (part > 0) {
        tokens.add(dice.of("+", "-", "*"));
      }
      if (open < 7 && dice.oneIn(open < 2 ? 3 : 2)) {
        tokens.add("(");
        drawSum(dice, open + 1, Math.min(more, 3), tokens);
        tokens.add(")");
      } else {
        tokens.add(dice.oneIn(3) ? String.valueOf(dice.below(dice.oneIn(4) ? 10000 : 5)) : dice.of("a", "b", "c", "f", "e", "d"));
      }
      if (dice.oneIn(4)) {
        tokens.add("^");
        tokens.add(String.valueOf(dice.below(dice.oneIn(20) ? 9 : 5)));
      }
    }
  }

  private static List<String> drawIdentity(Dice dice) {
    List<String> tokens = new ArrayList<>();
    drawSum(dice, 0, dice.oneIn(5) ? 40 : 5, tokens);
    tokens.add("=");
    if (dice.oneIn(2)) {
      drawSum(dice, 0, dice.oneIn(5) ? 40 : 5, tokens);
    } else {
      tokens.addAll(new ArrayList<>(tokens.subList(0, tokens.size() - 1)));
    }
    return tokens;
  }

  private static String spoil(Dice dice, List<String> tokens) {
    int times = dice.oneIn(3) ? 0 : dice.from(1, 2);
    for (int i = 0; i < times && !tokens.isEmpty(); i++) {
      int at = dice.below(tokens.size());
      switch (dice.below(4)) {
        case 0 -> tokens.remove(at);
        case 1 -> tokens.add(at, dice.of(POOL));
        case 2 -> tokens.set(at, dice.of(POOL));
        default -> tokens.set(at, tokens.get(dice.below(tokens.size())));
      }
    }
    boolean blanks = dice.oneIn(2);
    StringBuilder text = new StringBuilder();
    for (String token : tokens) {
      boolean apart = text.length() > 0 && !token.isEmpty() && Character.isLetter(token.charAt(0))
          && Character.isLetter(text.charAt(text.length() - 1));
      text.append(apart || blanks && dice.oneIn(6) ? dice.of(" ", "\n", "  ") : "").append(token);
    }
    text.append(dice.oneIn(10) ? " " : "");
    return text.length() <= 800 ? text.toString() : text.substring(0, 800);
  }

  private static boolean read(Runnable reading) {
    try {
      reading.run();
      return true;
    } catch (Stop stop) {
      return false;
    }
  }

  private static void tryForm(ToldPowers x, Dice dice) {
    String text = spoil(dice, drawForm(dice));
    Reading due = new Reading(text);
    read(due::form);
    boolean right = due.faults.isEmpty();
    String before = x.spell(0) < 0 ? "" : Check.shown(x);
    check.due("form '" + text + "'", Check.form(x, 0, text), right ? due.terms.size() : -1);
    check.text("fault of '" + text + "'", Check.fault(x), due.due());
    if (!right) {
      check.text("the slot stays", x.spell(0) < 0 ? "" : Check.shown(x), before);
      return;
    }
    for (int t = 0; t < due.terms.size(); t++) {
      for (int what = 0; what < 4; what++) {
        check.due("term of '" + text + "'", x.term(0, t, what), due.terms.get(t)[what]);
      }
    }
    check.due("spell '" + text + "'", x.spell(0) > 0, true);
    String shown = Check.shown(x);
    check.due("spelled again", Check.form(x, 1, shown), due.terms.size());
    x.spell(1);
    check.text("spelled again", Check.shown(x), shown);
  }

  private static void tryProof(ToldPowers x, Dice dice) {
    String text = spoil(dice, drawProof(dice, x, 0));
    Reading due = new Reading(text);
    read(() -> due.proof(x, 0));
    check.due("prove '" + text + "'", Check.prove(x, 0, text), due.faults.isEmpty() ? due.lines : -1);
    check.text("fault of '" + text + "'", Check.fault(x), due.due());
  }

  /** A number beyond longs is met. */
  private static final class Beyond extends RuntimeException {
    private static final long serialVersionUID = 1L;
  }

  private static BigInteger met(BigInteger number) {
    if (number.bitLength() > 63) {
      throw new Beyond();
    }
    return number;
  }

  /** A side told by its text without blanks, by splitting at the last sign that binds least. */
  private static BigInteger side(String text, int[] values) {
    int open = 0;
    int sum = -1;
    int product = -1;
    int power = -1;
    for (int i = 0; i < text.length(); i++) {
      char c = text.charAt(i);
      open += c == '(' ? 1 : c == ')' ? -1 : 0;
      if (open == 0) {
        sum = c == '+' || c == '-' ? i : sum;
        product = c == '*' ? i : product;
        power = c == '^' ? i : power;
      }
    }
    int split = sum >= 0 ? sum : product >= 0 ? product : power;
    if (split < 0) {
      char c = text.charAt(0);
      if (c == '(') {
        return side(text.substring(1, text.length() - 1), values);
      }
      return c >= 'a' ? BigInteger.valueOf(values[c - 'a']) : new BigInteger(text);
    }
    BigInteger left = side(text.substring(0, split), values);
    if (split == power) {
      BigInteger raised = BigInteger.ONE;
      for (int i = Integer.parseInt(text.substring(split + 1)); i > 0; i--) {
        raised = met(raised.multiply(left));
      }
      return raised;
    }
    BigInteger right = side(text.substring(split + 1), values);
    char sign = text.charAt(split);
    return met(sign == '+' ? left.add(right) : sign == '-' ? left.subtract(right) : left.multiply(right));
  }

  private static BigInteger sideOrNull(String text, int[] values) {
    try {
      return side(text, values);
    } catch (Beyond beyond) {
      return null;
    }
  }

  private static void tryIdentity(ToldPowers x, Dice dice) {
    String text = spoil(dice, drawIdentity(dice));
    Reading due = new Reading(text);
    read(due::identity);
    boolean right = due.faults.isEmpty();
    int letters = x.look(5);
    int parts = x.look(6);
    check.due("identity '" + text + "'", Check.identity(x, text), right ? due.letters.size() : -1);
    check.text("fault of '" + text + "'", Check.fault(x), due.due());
    if (right) {
      letters = 0;
      for (int letter : due.letters) {
        letters |= 1 << letter;
      }
      parts = due.parts;
      trySides(x, text, letters, dice);
    }
    check.due("letters of '" + text + "'", x.look(5), letters);
    check.due("parts of '" + text + "'", x.look(6), parts);
  }

  private static void trySides(ToldPowers x, String text, int letters, Dice dice) {
    String[] sides = text.replace(" ", "").replace("\n", "").split("=");
    for (int tries = 0; tries < 4; tries++) {
      int[] v = new int[6];
      for (int letter = 0; letter < 6; letter++) {
        v[letter] = dice.from(-9, 9);
      }
      int side = dice.below(2);
      BigInteger due = sideOrNull(sides[side], v);
      check.due("side " + side + " of '" + text + "'", x.side(side, v[0], v[1], v[2], v[3], v[4], v[5]),
          due == null ? Long.MIN_VALUE : due.longValue());
    }
    int b = Integer.bitCount(letters) <= 2 ? dice.below(4) : dice.below(2);
    tryRows(x, text, sides, letters, b);
  }

  private static void tryRows(ToldPowers x, String text, String[] sides, int letters, int b) {
    int broken = 0;
    int[] first = null;
    boolean beyond = false;
    int size = 2 * b + 1;
    for (int row = 0; row < size * size * size * size * size * size; row++) {
      int[] v = new int[6];
      boolean fits = true;
      for (int letter = 5, rest = row; letter >= 0; letter--, rest /= size) {
        boolean stands = (letters >> letter & 1) == 1;
        v[letter] = stands ? rest % size - b : 0;
        fits &= stands || rest % size == 0;
      }
      if (!fits) {
        continue;
      }
      BigInteger left = sideOrNull(sides[0], v);
      BigInteger right = sideOrNull(sides[1], v);
      if (left == null || right == null || !left.equals(right)) {
        beyond = broken == 0 ? left == null || right == null : beyond;
        first = broken == 0 ? v : first;
        broken++;
      }
    }
    String name = "tried(" + b + ", ";
    check.due(name + "0) of '" + text + "'", x.tried(b, 0), broken);
    for (int what = 1; what <= 6; what++) {
      check.due(name + what + ") of '" + text + "'", x.tried(b, what), first == null ? -100000 : first[what - 1]);
    }
    check.due(name + "7) of '" + text + "'", x.tried(b, 7), first == null ? -100000 : beyond ? 1 : 0);
  }

  public static void main(String[] args) {
    Dice dice = new Dice(11);
    ToldPowers x = new ToldPowers();
    for (int tries = 0; tries < 4000; tries++) {
      tryForm(x, dice);
    }
    for (int forms = 0; forms < 60; forms++) {
      while (Check.form(x, 0, spoil(dice, drawForm(dice))) < 0) {
        continue;
      }
      for (int tries = 0; tries < 80; tries++) {
        tryProof(x, dice);
      }
    }
    for (int tries = 0; tries < 4000; tries++) {
      tryIdentity(x, dice);
    }
    check.end();
  }
}
