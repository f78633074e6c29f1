import java.io.IOException;
import java.nio.file.Files;
import java.nio.file.Path;
import java.util.ArrayList;
import java.util.List;
import java.util.function.Consumer;

/** One sentence of the document, or a part of one: its tests bear its words as their name. */
final class Sentence {
  private static final Path DOCUMENT = Path.of("../shared/DOC.md");
  private static final List<String> NAMED = new ArrayList<>();

  private final String name;

  private Sentence(String place, String words) {
    name = place + ", \"" + words + "\"";
    NAMED.add(place + "|" + words);
    String section = section(place);
    // Without the document beside it a checkout can still be tested.
    Due.be(name + " stands in the document", section.isEmpty() || section.contains(words), true);
  }

  static Sentence of(int promise, String words) {
    return new Sentence("Promise " + promise, words);
  }

  /** A sentence of "What it is", of "Terms", of "II.", of "III." or of "The constants". */
  static Sentence of(String place, String words) {
    return new Sentence(place, words);
  }

  void be(String what, long got, long due) {
    Due.be(name + ": " + what, got, due);
  }

  void be(String what, boolean got, boolean due) {
    Due.be(name + ": " + what, got, due);
  }

  /** The call answers so behind the calls ahead of it, and leaves all as it was. */
  void refuses(String what, Consumer<SilentHouse> ahead, Call call, long due) {
    SilentHouse house = new SilentHouse();
    ahead.accept(house);
    be(what, call.on(house), due);
    leaves(what, ahead, call);
  }

  /** The call leaves all as it was behind the calls ahead of it. */
  void leaves(String what, Consumer<SilentHouse> ahead, Call call) {
    Alike.leftAsItWas(name + ": " + what, ahead, call);
  }

  static void everyOneOfPromises(int first, int last) {
    for (int promise = first; promise <= last; promise++) {
      everyOneOf("Promise " + promise);
    }
  }

  /** Each sentence that stands there has been named, itself or a part of it. */
  static void everyOneOf(String place) {
    for (String sentence : section(place).split("(?<=(?<!\\.)\\.) ")) {
      boolean named = sentence.isBlank();
      for (String one : NAMED) {
        String words = one.substring(one.indexOf('|') + 1);
        named |= one.startsWith(place + "|") && sentence.contains(words);
      }
      Due.be(place + ", \"" + sentence + "\" has a test", named, true);
    }
  }

  private static String section(String place) {
    String document = document();
    switch (place) {
      case "What it is": return between(document, "## What it is ", "## The public face");
      case "Terms": return between(document, "## Terms ", "==== II.");
      case "II.": return between(document, "==== II. ", "==== III.");
      case "III.": return between(document, "==== III. ", "The constants: ");
      case "The constants": return between(document, "The constants: ", "## Promise 1: ");
      default: return between(document + "## ", "`: ", "## ", "## " + place + ": ");
    }
  }

  private static String between(String text, String from, String to, String... first) {
    int start = 0;
    for (String one : first) {
      start = text.indexOf(one, start);
      if (start < 0) {
        return "";
      }
    }
    int begin = text.indexOf(from, start);
    int end = begin < 0 ? -1 : text.indexOf(to, begin + from.length());
    return end < 0 ? "" : text.substring(begin + from.length(), end).strip();
  }

  private static String document() {
    try {
      return Files.readString(DOCUMENT).replace("```text", "").replace("```", "").replaceAll("\\s+", " ");
    } catch (IOException e) {
      return "";
    }
  }
}
