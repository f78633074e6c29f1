import java.util.Random;

/** Makes texts of the language at random, faultless ones and ones with faults. */
final class Texts {
  private static final String[] LAUGHS_NAMES = {"wit", "shame", "row", "sort", "power", "near", "all"};
  private static final String[] LOUD_NAMES = {"sort", "power", "laughing", "rounds", "coughs"};
  private static final String[] DUES_NAMES = {"wit", "shame", "row", "bill", "people", "often", "coughed"};
  private static final String[] PIECES = {
    "wit", "shame", "row", "sort", "power", "near", "all", "laughing", "rounds", "coughs", "bill", "people", "often",
    "coughed", "laughs", "loud", "dues", "seat", "out", "hire", "night", "at", "or", "and", "not", "foo", "Wit", "nights",
    "<=", ">=", "<", ">", "=", "#", "+", "-", "*", "/", "(", ")", ";", "0", "5", "6", "15", "16", "9999", "10000",
    "00007", "123456789012", "!", "\t", "\u00e9", "\u0000"};
  private static final String[] RELATIONS = {"<", "<=", ">", ">=", "=", "#"};

  private final Random random;
  private int faulty = 0;

  Texts(Random random) {
    this.random = random;
  }

  private String pick(String[] of) {
    return of[random.nextInt(of.length)];
  }

  /** A text of at most 300 bytes, in which about so many of a hundred clauses have something odd. */
  String text(int oddness) {
    faulty = oddness;
    StringBuilder text = new StringBuilder();
    int clauses = random.nextInt(random.nextInt(20) == 0 ? 30 : 9);
    boolean[] had = new boolean[3];
    for (int i = 0; i < clauses; i++) {
      int law = random.nextInt(3);
      String clause = random.nextInt(3) == 0 && (!had[law] || odd()) ? law(law, had) : deed();
      if (text.length() + clause.length() > 300) {
        continue;
      }
      text.append(clause);
    }
    return mangled(text.toString());
  }

  /** Laws alone, that are likely to come in waves. */
  String laws() {
    faulty = 0;
    String text = law(0, new boolean[3]) + (random.nextBoolean() ? law(1, new boolean[3]) : "")
        + (random.nextBoolean() ? law(2, new boolean[3]) : "");
    return text.length() <= 300 ? text : "laughs power + 2 * near >= shame or all > 2 and row < 2; loud laughing * rounds + coughs;";
  }

  private boolean odd() {
    return random.nextInt(100) < faulty;
  }

  private String mangled(String text) {
    if (!odd()) {
      return text;
    }
    int at = random.nextInt(text.length() + 1);
    String piece = pick(PIECES);
    switch (random.nextInt(4)) {
      case 0: return cut(text.substring(0, at));
      case 1: return cut(text.substring(0, at) + piece + text.substring(at));
      case 2: return cut(text.substring(0, at) + " " + piece + " " + text.substring(at));
      default: return cut(text.substring(0, at) + (at < text.length() ? text.substring(at + 1) : ""));
    }
  }

  private static String cut(String text) {
    return text.length() > 300 ? text.substring(0, 300) : text;
  }

  private String blank() {
    int r = random.nextInt(6);
    return r == 0 ? "\n" : r == 1 ? "  " : " ";
  }

  private String law(int law, boolean[] had) {
    had[law] = true;
    if (law == 0) {
      return "laughs" + blank() + either() + ";" + (random.nextBoolean() ? blank() : "");
    }
    return (law == 1 ? "loud" : "dues") + blank() + sum(law, random.nextInt(4)) + ";";
  }

  private String either() {
    StringBuilder s = new StringBuilder(ask());
    int more = random.nextInt(4);
    for (int i = 0; i < more; i++) {
      s.append(random.nextBoolean() ? " or " : " and ").append(ask());
    }
    return s.toString();
  }

  private String ask() {
    String nots = random.nextInt(5) == 0 ? "not ".repeat(1 + random.nextInt(odd() ? 10 : 3)) : "";
    if (random.nextInt(2) == 0) {
      String[] likely = {"power + near * 2 > shame", "all > " + random.nextInt(4), "near > 0", "wit < power", "row = " + random.nextInt(4),
        "power >= shame + row", "near + all >= 2", "sort = 1"};
      return nots + pick(likely);
    }
    return nots + sum(0, random.nextInt(3)) + pick(RELATIONS) + sum(0, random.nextInt(2));
  }

  private String sum(int law, int depth) {
    StringBuilder s = new StringBuilder(one(law, depth));
    int more = random.nextInt(3);
    for (int i = 0; i < more; i++) {
      String[] signs = {"+", "-", "*", "/", " + ", " - ", " * ", " / "};
      s.append(pick(signs)).append(one(law, depth));
    }
    return s.toString();
  }

  private String one(int law, int depth) {
    if (odd() && random.nextInt(4) == 0) {
      int deep = 1 + random.nextInt(10);
      return "(".repeat(deep) + "1" + ")".repeat(deep);
    }
    switch (random.nextInt(depth > 0 ? 8 : 6)) {
      case 0: return Integer.toString(random.nextInt(10));
      case 1: return Integer.toString(random.nextInt(odd() ? 12000 : 10000));
      case 2: return random.nextInt(3) == 0 ? "-" + one(law, depth) : Integer.toString(random.nextInt(4));
      case 3: case 4: case 5: return name(law);
      default: return "(" + sum(law, depth - 1) + ")";
    }
  }

  private String name(int law) {
    int of = odd() ? random.nextInt(3) : law;
    return pick(of == 0 ? LAUGHS_NAMES : of == 1 ? LOUD_NAMES : DUES_NAMES);
  }

  private String deed() {
    int person = random.nextInt(odd() ? 8 : 6);
    switch (random.nextInt(6)) {
      case 0: case 1: case 2: return "seat " + person + " at " + random.nextInt(odd() ? 18 : 16) + "; ";
      case 3: return "night;";
      case 4: return "out " + person + ";";
      default: return "hire " + person + ";\n";
    }
  }
}
