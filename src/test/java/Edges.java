import java.io.IOException;
import java.nio.file.Files;
import java.nio.file.Path;
import java.util.HashMap;
import java.util.Map;
import java.util.function.IntUnaryOperator;

/**
 * Tests by sentence: each says where the document has a sentence, and its words, and then what is due by it.
 * The words must be the document's own, and no words of the parts and promises that a test covers may be left unsaid.
 */
final class Edges extends Check {
  private static final Path DOCUMENT = Path.of("..", "shared", "DOC.md");

  private final Map<String, String> texts = new HashMap<>();
  private final Map<String, boolean[]> said = new HashMap<>();
  private String where = "";
  private String sentence = "";
  private int answersHere = 1;

  Edges() { readDocument(); }

  /** What follows is due by this sentence. */
  void says(String where, String sentence) {
    endSentence();
    this.where = where;
    this.sentence = sentence;
    answersHere = 0;
    if (texts.isEmpty()) return;
    String text = texts.get(where);
    int at = text == null ? -1 : text.indexOf(sentence);
    if (at < 0) super.due(where + " of the document does not say '" + sentence + "'", at, 0);
    for (; at >= 0; at = text.indexOf(sentence, at + 1)) {
      for (int i = at; i < at + sentence.length(); i++) said.get(where)[i] = true;
    }
  }

  @Override void due(String what, long got, long want) {
    answersHere++;
    super.due(where + ", '" + sentence + "': " + what, got, want);
  }

  void allowed(String what, int got) { due(what + " (" + got + ") is not refused", got > UNKNOWN ? 1 : 0, 1); }

  /** Both sides of both bounds, and the farthest numbers. */
  void bounds(String name, int least, int most, int refusal, IntUnaryOperator call) {
    allowed(name + " " + least, call.applyAsInt(least));
    allowed(name + " " + most, call.applyAsInt(most));
    if (least > Integer.MIN_VALUE) {
      due(name + " " + (least - 1), call.applyAsInt(least - 1), refusal);
      due(name + " at the least int", call.applyAsInt(Integer.MIN_VALUE), refusal);
    }
    if (most < Integer.MAX_VALUE) {
      due(name + " " + (most + 1), call.applyAsInt(most + 1), refusal);
      due(name + " at the greatest int", call.applyAsInt(Integer.MAX_VALUE), refusal);
    }
  }

  /** A HOUSE, SORT or RULE told to a new object: its answer and where its FAULT is. */
  void reads(String kind, String text, int answer, int fault) {
    RungHouse x = tell(new RungHouse(), text);
    due(kind + " '" + text + "'", kind.equals("house") ? x.house(0) : kind.equals("sort") ? x.sort() : x.rule(), answer);
    due(kind + " '" + text + "': fault", x.fault(), fault);
  }

  /** Every word of these parts and promises must have been said. */
  void covers(String... wheres) {
    endSentence();
    if (texts.isEmpty()) return;
    for (String one : wheres) {
      String text = texts.getOrDefault(one, "?");
      boolean[] marks = said.getOrDefault(one, new boolean[text.length()]);
      StringBuilder left = new StringBuilder();
      for (int i = 0; i < text.length(); i++) {
        if (!marks[i]) left.append(text.charAt(i));
      }
      boolean unsaid = left.chars().anyMatch(Character::isLetterOrDigit);
      super.due(one + " has words that no test says" + (unsaid ? ": " + left : ""), unsaid ? 1 : 0, 0);
    }
  }

  private void endSentence() {
    if (answersHere == 0) super.due(where + ", '" + sentence + "': nothing is tested", 0, 1);
    answersHere = 1;
  }

  private void readDocument() {
    if (!Files.isReadable(DOCUMENT)) {
      System.out.println("no document at " + DOCUMENT.toAbsolutePath() + ": its words are not looked at");
      return;
    }
    String all;
    try {
      all = Files.readString(DOCUMENT).replace("```java", " ").replace("```text", " ").replace("```", " ").replaceAll("\\s+", " ");
    } catch (IOException e) {
      throw new IllegalStateException(e);
    }
    put("What it is", between(all, "## What it is", "## The public face"));
    put("The public face", between(all, "## The public face", "## Terms"));
    put("Terms", between(all, "## Terms", "======== 1"));
    for (int part = 1; part <= 4; part++) put("Part " + part, between(all, "======== " + part, part < 4 ? "======== " + (part + 1) : "Ahead of the calls"));
    for (int n = 1; n <= 33; n++) {
      String promise = between(all, "## Promise " + n + ":", n < 33 ? "## Promise " + (n + 1) + ":" : "## Not promised");
      put("Promise " + n, between(promise, "`:", ""));
    }
  }

  private void put(String name, String text) {
    texts.put(name, text);
    said.put(name, new boolean[text.length()]);
  }

  private static String between(String text, String from, String to) {
    int a = text.indexOf(from);
    int b = to.isEmpty() ? text.length() : text.indexOf(to, Math.max(a, 0));
    if (a < 0 || b < 0) throw new IllegalStateException("the document has no '" + (a < 0 ? from : to) + "'");
    return text.substring(a + from.length(), b).trim();
  }
}
