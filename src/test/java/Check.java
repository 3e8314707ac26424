/** Counts what is asked and prints every call whose answer is not the one that is due. */
final class Check {
  private final String name;
  private String sentence = "";
  private long asked;
  private long askedBefore;
  private long wrong;

  Check(String name) {
    this.name = name;
  }

  /** Answers from here on are of this sentence of the document; the one before must have had some. */
  void of(String next) {
    if (!sentence.isEmpty() && asked == askedBefore) {
      wrong(" nothing is asked, due is a test");
    }
    sentence = next;
    askedBefore = asked;
  }

  private void wrong(String text) {
    wrong++;
    if (wrong <= 40) {
      System.out.println(name + ": " + (sentence.isEmpty() ? "" : "[" + sentence + "] ") + text);
    }
  }

  void due(String call, long got, long want) {
    asked++;
    if (got != want) {
      wrong(call + " answered " + got + ", due is " + want);
    }
  }

  void due(String call, boolean got, boolean want) {
    due(call, got ? 1L : 0L, want ? 1L : 0L);
  }

  void text(String call, String got, String want) {
    asked++;
    if (!got.equals(want)) {
      wrong(call + " answered \"" + got + "\", due is \"" + want + "\"");
    }
  }

  void end() {
    System.out.println(name + ": " + asked + " answers, " + wrong + " wrong");
    if (wrong > 0) {
      System.exit(1);
    }
  }

  /** Puts a text alone on the tape; characters are bytes. */
  static void put(ToldPowers x, String text) {
    x.end(0);
    int length = text.length();
    for (int at = 0; at < length; at += 20) {
      int[] fours = new int[5];
      for (int i = 0; i < 20; i++) {
        int b = at + i < length ? text.charAt(at + i) : ' ';
        fours[i / 4] = fours[i / 4] << 8 | b & 255;
      }
      x.feed(fours[0], fours[1], fours[2], fours[3], fours[4]);
    }
    x.end(length);
  }

  static int form(ToldPowers x, int slot, String text) {
    put(x, text);
    return x.form(slot);
  }

  static int prove(ToldPowers x, int slot, String text) {
    put(x, text);
    return x.prove(slot);
  }

  static int identity(ToldPowers x, String text) {
    put(x, text);
    return x.identity();
  }

  static ToldPowers with(String... texts) {
    ToldPowers x = new ToldPowers();
    for (int slot = 0; slot < texts.length; slot++) {
      if (form(x, slot, texts[slot]) < 0) {
        throw new IllegalStateException(texts[slot]);
      }
    }
    return x;
  }

  /** What was shown latest. */
  static String shown(ToldPowers x) {
    StringBuilder text = new StringBuilder();
    for (int i = 0; x.out(i) != ToldPowers.NONE; i++) {
      text.append((char) x.out(i));
    }
    return text.toString();
  }

  /** Fault, place and both that it lies within, behind one another. */
  static String fault(ToldPowers x) {
    return x.fault(0) + " " + x.fault(1) + " " + x.fault(2) + " " + x.fault(3);
  }

  /** The terms of a slot, each by factor, kind, low and high. */
  static String terms(ToldPowers x, int slot) {
    StringBuilder text = new StringBuilder();
    for (int i = 0; i < x.look(slot); i++) {
      text.append(i > 0 ? " + " : "").append(x.term(slot, i, 0)).append(' ').append(x.term(slot, i, 1));
      text.append(' ').append(x.term(slot, i, 2)).append(' ').append(x.term(slot, i, 3));
    }
    return text.toString();
  }
}
