import java.io.IOException;
import java.nio.file.Files;
import java.nio.file.Path;
import java.util.ArrayList;
import java.util.List;

/**
 * The document, line by line: a test names the sentence it is of, and in the end no word of the lines that a file of
 * tests is about may be left without a test. Where the document can't be read, sentences are taken as they are told.
 */
final class Doc {
  private static final Path PLACE = Path.of("../shared/DOC.md");
  private final Check check;
  private final List<String> lines = new ArrayList<>();
  private final List<boolean[]> quoted = new ArrayList<>();
  private int sentences;

  Doc(Check check) {
    this.check = check;
    try {
      for (String line : Files.readAllLines(PLACE)) {
        String text = line.trim();
        lines.add(text);
        quoted.add(new boolean[text.length()]);
      }
    } catch (IOException missing) {
      System.out.println("no document at " + PLACE + ": quotes are not looked up");
    }
  }

  /** The line that begins so, or tells the promise of the method that is named so; -1 without one. */
  private int lineOf(String begin) {
    for (int i = 0; i < lines.size(); i++) {
      String line = lines.get(i);
      boolean promise = line.startsWith("`") && (line.startsWith("`" + begin + "(") || line.contains(" " + begin + "("))
          && line.indexOf(begin + "(") < line.indexOf(')');
      if (promise || line.startsWith(begin)) {
        return i;
      }
    }
    return -1;
  }

  /** From here on answers are of this sentence of that line. */
  void of(String begin, String sentence) {
    sentences++;
    check.of(begin + ": " + sentence);
    int line = lineOf(begin);
    int at = line < 0 ? -1 : lines.get(line).indexOf(sentence);
    if (at < 0) {
      if (!lines.isEmpty()) {
        check.text("the document's line " + begin, "has no such sentence", sentence);
      }
      return;
    }
    for (int i = at; i < at + sentence.length(); i++) {
      quoted.get(line)[i] = true;
    }
  }

  /** Every word of these lines must have been quoted, but for the face that stands ahead. */
  void all(String... begins) {
    check.of("the sentences of the document");
    for (String begin : begins) {
      int line = lineOf(begin);
      check.due("the line " + begin + " is there", line >= 0 || lines.isEmpty(), true);
      if (line >= 0) {
        check.text("words of " + begin + " without a test", unquoted(line), "");
      }
    }
    check.of("");
    System.out.println(sentences + " sentences");
  }

  private String unquoted(int line) {
    String text = lines.get(line);
    StringBuilder left = new StringBuilder();
    int from = text.startsWith("`") ? text.indexOf("`: ") + 3 : 0;
    for (int i = from; i < text.length(); i++) {
      boolean counts = Character.isLetterOrDigit(text.charAt(i)) && !quoted.get(line)[i];
      left.append(counts ? String.valueOf(text.charAt(i)) : left.length() > 0 && left.charAt(left.length() - 1) != ' ' ? " " : "");
    }
    return left.toString().trim();
  }
}
