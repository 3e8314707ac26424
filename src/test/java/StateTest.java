import java.util.ArrayList;
import java.util.List;

/** An object with a long past answers as a new one with the same forms; wild arguments never make the machine throw. */
public final class StateTest {
  private static final Check check = new Check("StateTest");
  private static final String[] TERMS = {"line from -3000 to 3000", "line", "square", "cube", "3line from -5 to 5", "square from -9 to 9",
      "fourth", "three from -7 to 20", "2square from 3 to 3", "99line", "cube from -14 to 14"};

  private static String text(List<String> terms) {
    return String.join("+", terms);
  }

  private static List<String> draw(Dice dice) {
    List<String> terms = new ArrayList<>();
    for (int t = dice.from(1, 5); t > 0; t--) {
      terms.add(terms.isEmpty() || dice.oneIn(2) ? dice.of(TERMS) : terms.get(0));
    }
    return terms;
  }

  private static void change(ToldPowers x, List<List<String>> slots, Dice dice) {
    int slot = dice.below(4);
    int other = dice.below(4);
    int into = dice.below(4);
    int i = dice.below(5);
    List<String> terms = slots.get(slot);
    boolean there = i < terms.size();
    switch (dice.below(5)) {
      case 0 -> {
        slots.set(slot, draw(dice));
        check.due("form", Check.form(x, slot, text(slots.get(slot))), slots.get(slot).size());
      }
      case 1 -> {
        List<String> both = new ArrayList<>(terms);
        both.addAll(slots.get(other));
        boolean fits = both.size() >= 1 && both.size() <= 5;
        check.due("join", x.join(slot, other, into), fits);
        if (fits) {
          slots.set(into, both);
        }
      }
      case 2 -> {
        check.due("drop", x.drop(slot, i), there);
        if (there) {
          terms.remove(i);
        }
      }
      case 3 -> {
        check.due("lead", x.lead(slot, i), there);
        if (there) {
          terms.add(0, terms.remove(i));
        }
      }
      default -> check.due("a form with a fault", Check.form(x, slot, text(draw(dice)) + "+"), -1);
    }
  }

  private static void compare(ToldPowers x, int slot, List<String> terms, Dice dice) {
    check.due("look", x.look(slot), terms.size());
    if (terms.isEmpty()) {
      check.due("no ways", x.ways(slot, 0), -1);
      return;
    }
    ToldPowers y = Check.with(text(terms));
    String name = text(terms) + ": ";
    for (int asked = dice.from(1, 4); asked > 0; asked--) {
      int n = dice.oneIn(3) ? dice.from(-3000, 3000) : dice.from(-20, 60);
      switch (dice.below(9)) {
        case 0 -> check.due(name + "ways", x.ways(slot, n), y.ways(0, n));
        case 1 -> check.due(name + "unlike", x.unlike(slot, n), y.unlike(0, n));
        case 2 -> check.due(name + "missed", x.missed(slot, -9, 3000, -1), y.missed(0, -9, 3000, -1));
        case 3 -> check.due(name + "nearest", x.nearest(slot, n), y.nearest(0, n));
        case 4 -> check.due(name + "enough", x.enough(slot, n), y.enough(0, n));
        case 5 -> check.due(name + "met", x.met(slot, 12, n & 7), y.met(0, 12, n & 7));
        case 6 -> check.due(name + "many", x.many(slot, n, 2, true), y.many(0, n, 2, true));
        case 7 -> check.due(name + "greed", x.greed(slot, n, -1), y.greed(0, n, -1));
        default -> {
          long ways = x.ways(slot, n);
          for (int i = 0; i < terms.size(); i++) {
            check.due(name + "way", x.way(slot, n, ways / 2, i), y.way(0, n, ways / 2, i));
          }
        }
      }
    }
  }

  private static int wild(Dice dice) {
    int[] edges = {0, 1, -1, 2, 3, 4, 5, 6, 7, 59, 60, 61, 199, 200, 800, 2999, 3000, 3001, -2999, -3000, -3001, 6001, 1000000, 1000001,
        Integer.MAX_VALUE, Integer.MIN_VALUE, Integer.MAX_VALUE - 1, Integer.MIN_VALUE + 1};
    return dice.oneIn(3) ? dice.from(-4, 5) : edges[dice.below(edges.length)];
  }

  private static long wildCall(ToldPowers x, Dice dice) {
    int a = wild(dice);
    int b = wild(dice);
    int c = wild(dice);
    int d = wild(dice);
    int e = wild(dice);
    switch (dice.below(35)) {
      case 0: return x.feed(a, b, c, d, e);
      case 1: return x.end(a) ? 1 : 0;
      case 2: return x.form(a);
      case 3: return x.prove(a);
      case 4: return x.identity();
      case 5: return x.fault(a);
      case 6: return x.term(a, b, c);
      case 7: return x.ways(a, b);
      case 8: return x.unlike(a, b);
      case 9: return x.way(a, b, dice.oneIn(3) ? Long.MIN_VALUE : dice.oneIn(2) ? Long.MAX_VALUE : c, d);
      case 10: return x.number(a, b, c, d, e, a, b);
      case 11: return x.missed(a, b, c, d);
      case 12: return x.explained(a, b, c, d);
      case 13: return x.full(a);
      case 14: return x.met(a, b, c);
      case 15: return x.meets(a, b, c, d);
      case 16: return x.never(a, b, c);
      case 17: return x.bars(a);
      case 18: return x.many(a, b, c, dice.oneIn(2));
      case 19: return x.greed(a, b, c);
      case 20: return x.nearest(a, b);
      case 21: return x.enough(a, b);
      case 22: return x.join(a, b, c) ? 1 : 0;
      case 23: return x.drop(a, b) ? 1 : 0;
      case 24: return x.lead(a, b) ? 1 : 0;
      case 25: return x.common(a, b, c, d, e);
      case 26: return x.tried(a, b);
      case 27: return x.side(a, b, c, d, e, 0, 1);
      case 28: return x.spell(a);
      case 29: return x.write(a, b, c);
      case 30: return x.out(a);
      case 31: return x.gap(a, b, c, d);
      case 32: return x.rank(a, b, c, d);
      case 33: return x.look(a);
      default: return Check.form(x, dice.below(4), text(draw(dice)));
    }
  }

  private static void tryWild(long seed) {
    Dice dice = new Dice(seed);
    Dice same = new Dice(seed);
    ToldPowers x = new ToldPowers();
    ToldPowers y = new ToldPowers();
    Check.identity(x, "(a+b)^6*9999^2*(c-d)^5=e^6*f^6");
    Check.identity(y, "(a+b)^6*9999^2*(c-d)^5=e^6*f^6");
    for (int call = 0; call < 512; call++) {
      check.due("the same calls", wildCall(x, dice), wildCall(y, same));
    }
  }

  public static void main(String[] args) {
    Dice dice = new Dice(3);
    for (int objects = 0; objects < 60; objects++) {
      ToldPowers x = new ToldPowers();
      List<List<String>> slots = new ArrayList<>();
      for (int slot = 0; slot < 4; slot++) {
        slots.add(new ArrayList<>());
      }
      for (int call = 0; call < 120; call++) {
        change(x, slots, dice);
        int slot = dice.below(4);
        compare(x, slot, slots.get(slot), dice);
      }
    }
    for (long seed = 0; seed < 150; seed++) {
      tryWild(seed);
    }
    check.end();
  }
}
