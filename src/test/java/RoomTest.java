import java.lang.management.ManagementFactory;
import java.util.ArrayList;
import java.util.List;

/** What the dearest runs of 512 calls make: far less than the room of 7.3 million elements, and nothing call by call. */
public final class RoomTest {
  private static final Check check = new Check("RoomTest");
  private static final String WIDE = "line from -3000 to 3000";
  /** In bytes: an eighth of the room, if each of its elements has eight. */
  private static final long MOST = 7300000;
  private static final String[] NARROW_TO_WIDE = {"line from 3000 to 3000", "square", "line from -9 to 9+cube", "line from -500 to 0+line",
      "line from -1500 to 0+line", WIDE + "+cube", WIDE + "+line", WIDE + "+" + WIDE, WIDE + "+" + WIDE + "+line",
      WIDE + "+" + WIDE + "+" + WIDE, WIDE + "+" + WIDE + "+" + WIDE + "+line", WIDE + "+" + WIDE + "+" + WIDE + "+" + WIDE,
      WIDE + "+" + WIDE + "+" + WIDE + "+" + WIDE + "+line", WIDE + "+" + WIDE + "+" + WIDE + "+" + WIDE + "+" + WIDE};

  private interface Run {
    void calls(ToldPowers x);
  }

  /** Bytes that this thread has taken; 0 where the machine doesn't count them. */
  private static long taken() {
    Object counter = ManagementFactory.getThreadMXBean();
    return counter instanceof com.sun.management.ThreadMXBean own ? own.getCurrentThreadAllocatedBytes() : 0;
  }

  private static int[] fed(String text) {
    int[] fours = new int[(text.length() + 19) / 20 * 5];
    for (int i = 0; i < fours.length * 4; i++) {
      fours[i / 4] = fours[i / 4] << 8 | (i < text.length() ? text.charAt(i) : ' ');
    }
    return fours;
  }

  private static void feed(ToldPowers x, int[] fours) {
    for (int i = 0; i < fours.length; i += 5) {
      x.feed(fours[i], fours[i + 1], fours[i + 2], fours[i + 3], fours[i + 4]);
    }
  }

  private static long bytes(Run run) {
    long before = taken();
    run.calls(new ToldPowers());
    return taken() - before;
  }

  private static void within(String name, Run run) {
    bytes(run);
    long made = bytes(run);
    System.out.println(name + ": " + made + " bytes");
    check.due(name + " makes " + made + " bytes, at most " + MOST + " are due", made <= MOST, true);
  }

  /** Forms that become wider and wider, each in another slot, with counts of both sorts. */
  private static void growingForms() {
    List<int[]> texts = new ArrayList<>();
    for (String text : NARROW_TO_WIDE) {
      texts.add(fed(text));
    }
    within("growing forms", x -> {
      for (int i = 0; i < texts.size(); i++) {
        feed(x, texts.get(i));
        x.form(i & 3);
        x.ways(i & 3, 0);
        x.unlike(i & 3, 0);
        x.way(i & 3, 0, 0, 0);
      }
    });
  }

  /** The widest form in all slots, asked in turn, so that nothing that is kept serves the next call. */
  private static void widestForms() {
    int[] widest = fed(NARROW_TO_WIDE[NARROW_TO_WIDE.length - 1]);
    within("the widest forms", x -> {
      feed(x, widest);
      x.form(0);
      for (int slot = 1; slot < 4; slot++) {
        x.join(0, slot, slot);
      }
      for (int call = 0; call < 90; call++) {
        x.lead(call & 3, 4);
        x.ways(call & 3, 7);
        x.unlike(call & 3, 7);
        x.nearest(call & 3, 7);
        x.write(call & 3, -30, 29);
      }
    });
  }

  private static void texts() {
    int[] proof = fed("0=0;1=1;2=2;-1not;-2 not;3=3;4=4;5=5;6=6;7=7;8=8;9=9;10=10;11=11;12=12;13=13;14=14;15=15;");
    int[] equation = fed("(a+b+c)^6-(d*e*f)^2=((((((a)))))) - b^6*9999");
    int[] line = fed("line");
    within("texts", x -> {
      feed(x, line);
      x.form(0);
      for (int call = 0; call < 40; call++) {
        feed(x, proof);
        x.prove(0);
        feed(x, equation);
        x.identity();
        x.side(call & 1, 1, 2, 3, 4, 5, 6);
        x.tried(1, call % 8);
      }
    });
  }

  /** Once the rows are made, no call makes anything. */
  private static void nothingMore() {
    ToldPowers x = Check.with("square+square+cube from -3 to 3", "line+three");
    Check.identity(x, "(a+b)^2=a^2+2*a*b+b^2");
    long made = 0;
    for (int round = 0; round < 3; round++) {
      long before = taken();
      everyCall(x);
      made = taken() - before;
    }
    check.due("every call once again makes " + made + " bytes, none are due", made <= 1000, true);
  }

  private static void everyCall(ToldPowers x) {
    x.feed(1, 2, 3, 4, 5);
    x.end(3);
    x.form(2);
    x.prove(0);
    x.identity();
    x.fault(0);
    x.term(0, 0, 0);
    x.ways(0, 25);
    x.unlike(0, 25);
    x.way(0, 25, 1, 0);
    x.number(1, 25, 25, 0, 0, 0, 0);
    x.missed(0, -3000, 3000, -1);
    x.explained(0, -3000, 3000, 60);
    x.full(0);
    x.met(0, 60, 1);
    x.meets(0, 60, 1, 2);
    x.never(0, 60, -1);
    x.bars(1);
    x.many(0, -3000, 1000000, false);
    x.greed(0, 3000, -1);
    x.nearest(0, -3000);
    x.enough(0, 2999);
    x.join(0, 1, 2);
    x.lead(2, 4);
    x.drop(2, 0);
    x.common(0, 1, -3000, 3000, -1);
    x.tried(3, 0);
    x.side(0, 1, 2, 3, 4, 5, 6);
    x.spell(0);
    x.write(0, 0, 59);
    x.out(0);
    x.gap(0, -3000, 3000, 0);
    x.rank(0, 0, 199, 199);
    x.look(0);
  }

  public static void main(String[] args) {
    growingForms();
    widestForms();
    texts();
    nothingMore();
    check.end();
  }
}
