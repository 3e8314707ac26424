/** Numbers that look random and are the same each time. */
final class Dice {
  private long state;

  Dice(long seed) {
    state = seed * 2862933555777941757L + 3037000493L;
  }

  int below(int bound) {
    state = state * 6364136223846793005L + 1442695040888963407L;
    return (int) ((state >>> 33) % bound);
  }

  int from(int low, int high) {
    return low + below(high - low + 1);
  }

  boolean oneIn(int n) {
    return below(n) == 0;
  }

  String of(String... texts) {
    return texts[below(texts.length)];
  }
}
