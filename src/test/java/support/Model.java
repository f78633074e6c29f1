import java.util.ArrayDeque;
import java.util.ArrayList;
import java.util.Arrays;
import java.util.List;
import java.util.Map;
import java.util.function.Function;
import java.util.function.ToIntFunction;

/**
 * The document once more, written plainly and apart from the class: trees of functions for the
 * language, whole copies for what is taken back, every order and every set tried one by one.
 */
final class Model {
  static final int NONE = -1;

  static final class Person {
    int wit;
    int shame;
    int cold;
    int seat = NONE;
    boolean still;
    int paid;

    Person copy() {
      Person p = new Person();
      p.wit = wit;
      p.shame = shame;
      p.cold = cold;
      p.seat = seat;
      p.still = still;
      p.paid = paid;
      return p;
    }
  }

  record Line(int sort, int power) {
  }

  record Clause(String word, int person, int seat) {
  }

  /** What a law's names stand for. */
  interface Names extends Function<String, Integer> {
  }

  static final class Text {
    Function<Names, Boolean> laughs;
    ToIntFunction<Names> loud;
    ToIntFunction<Names> dues;
    final List<Clause> clauses = new ArrayList<>();
  }

  static final class Fault extends RuntimeException {
    final int what;
    final int place;

    Fault(int what, int place) {
      this.what = what;
      this.place = place;
    }
  }

  record Token(String text, int place) {
    boolean isNumber() {
      return !text.isEmpty() && Character.isDigit(text.charAt(0));
    }

    int number() {
      String digits = text.replaceFirst("^0+", "");
      return digits.length() > 5 ? 99999 : digits.isEmpty() ? 0 : Integer.parseInt(digits);
    }
  }

  record Wave(List<Integer> laughing, int rounds) {
  }

  static final class State {
    List<Person> people = new ArrayList<>();
    List<Line> lines = new ArrayList<>();
    List<Text> texts = new ArrayList<>();
    List<Integer> seen = new ArrayList<>();
    ArrayDeque<State> steps = new ArrayDeque<>();
    int x = 17;
    int nights = 0;
    int ruling = NONE;

    State copy(boolean withSteps) {
      State s = new State();
      for (Person p : people) {
        s.people.add(p.copy());
      }
      s.lines.addAll(lines);
      s.texts.addAll(texts);
      s.seen.addAll(seen);
      if (withSteps) {
        s.steps.addAll(steps);
      }
      s.x = x;
      s.nights = nights;
      s.ruling = ruling;
      return s;
    }
  }

  State now = new State();
  State image = new State();
  byte[] tape = new byte[0];
  int faultWhat = NONE;
  int faultPlace = NONE;

  // ---- the language

  private static final Map<String, String> NAMES = Map.ofEntries(
      Map.entry("wit", "laughs dues"), Map.entry("shame", "laughs dues"), Map.entry("row", "laughs dues"),
      Map.entry("sort", "laughs loud"), Map.entry("power", "laughs loud"),
      Map.entry("near", "laughs"), Map.entry("all", "laughs"),
      Map.entry("laughing", "loud"), Map.entry("rounds", "loud"), Map.entry("coughs", "loud"),
      Map.entry("bill", "dues"), Map.entry("people", "dues"), Map.entry("often", "dues"), Map.entry("coughed", "dues"));

  private static final class Parser {
    final List<Token> tokens = new ArrayList<>();
    final Text text = new Text();
    int at = 0;
    String law = "";
    int open = 0;

    Parser(byte[] tape) {
      String s = "";
      for (byte b : tape) {
        s += (char) (b & 255);
      }
      int i = 0;
      while (i < s.length()) {
        String rest = s.substring(i);
        String token = rest.replaceFirst("(?s)^([a-zA-Z]+|[0-9]+|<=|>=|.).*$", "$1");
        if (!token.equals(" ") && !token.equals("\n")) {
          tokens.add(new Token(token, i));
        }
        i += token.length();
      }
      tokens.add(new Token("", s.length()));
    }

    Token peek() {
      return tokens.get(at);
    }

    boolean is(String word) {
      return peek().text().equals(word);
    }

    Token take() {
      return tokens.get(at++);
    }

    Fault fault(int what) {
      return new Fault(what, peek().place());
    }

    void need(String word) {
      if (!is(word)) {
        throw fault(1);
      }
      take();
    }

    int needNumber(int most) {
      if (!peek().isNumber()) {
        throw fault(1);
      }
      if (peek().number() > most) {
        throw fault(2);
      }
      return take().number();
    }

    Text whole() {
      while (!is("")) {
        String word = peek().text();
        if (!List.of("laughs", "loud", "dues", "seat", "out", "hire", "night").contains(word)) {
          throw fault(1);
        }
        if (word.equals("laughs") && text.laughs != null || word.equals("loud") && text.loud != null
            || word.equals("dues") && text.dues != null) {
          throw fault(4);
        }
        if (text.clauses.size() == 24) {
          throw fault(6);
        }
        take();
        law = word;
        int person = 0;
        int seat = NONE;
        switch (word) {
          case "laughs" -> text.laughs = either();
          case "loud" -> text.loud = sum();
          case "dues" -> text.dues = sum();
          case "seat" -> {
            person = needNumber(5);
            need("at");
            seat = needNumber(15);
          }
          case "out", "hire" -> person = needNumber(5);
          default -> { }
        }
        need(";");
        text.clauses.add(new Clause(word, person, seat));
      }
      return text;
    }

    Function<Names, Boolean> either() {
      Function<Names, Boolean> left = both();
      while (is("or")) {
        take();
        Function<Names, Boolean> l = left;
        Function<Names, Boolean> r = both();
        left = n -> l.apply(n) | r.apply(n);
      }
      return left;
    }

    Function<Names, Boolean> both() {
      Function<Names, Boolean> left = ask();
      while (is("and")) {
        take();
        Function<Names, Boolean> l = left;
        Function<Names, Boolean> r = ask();
        left = n -> l.apply(n) & r.apply(n);
      }
      return left;
    }

    void opens() {
      if (open == 8) {
        throw fault(3);
      }
      open++;
      take();
    }

    Function<Names, Boolean> ask() {
      if (is("not")) {
        opens();
        Function<Names, Boolean> inner = ask();
        open--;
        return n -> !inner.apply(n);
      }
      ToIntFunction<Names> l = sum();
      String sign = peek().text();
      if (!List.of("<", "<=", ">", ">=", "=", "#").contains(sign)) {
        throw fault(1);
      }
      take();
      ToIntFunction<Names> r = sum();
      return n -> {
        int c = Integer.compare(l.applyAsInt(n), r.applyAsInt(n));
        return switch (sign) {
          case "<" -> c < 0;
          case "<=" -> c <= 0;
          case ">" -> c > 0;
          case ">=" -> c >= 0;
          case "=" -> c == 0;
          default -> c != 0;
        };
      };
    }

    static int bounded(long v) {
      return (int) Math.max(-1000000L, Math.min(1000000L, v));
    }

    ToIntFunction<Names> sum() {
      ToIntFunction<Names> left = product();
      while (is("+") || is("-")) {
        boolean plus = take().text().equals("+");
        ToIntFunction<Names> l = left;
        ToIntFunction<Names> r = product();
        left = n -> bounded(plus ? (long) l.applyAsInt(n) + r.applyAsInt(n) : (long) l.applyAsInt(n) - r.applyAsInt(n));
      }
      return left;
    }

    ToIntFunction<Names> product() {
      ToIntFunction<Names> left = one();
      while (is("*") || is("/")) {
        boolean times = take().text().equals("*");
        ToIntFunction<Names> l = left;
        ToIntFunction<Names> r = one();
        left = n -> {
          long a = l.applyAsInt(n);
          long b = r.applyAsInt(n);
          return bounded(times ? a * b : b == 0 ? 0 : a / b);
        };
      }
      return left;
    }

    ToIntFunction<Names> one() {
      if (peek().isNumber()) {
        int number = needNumber(9999);
        return n -> number;
      }
      if (is("(")) {
        opens();
        ToIntFunction<Names> inner = sum();
        need(")");
        open--;
        return inner;
      }
      if (is("-")) {
        opens();
        ToIntFunction<Names> inner = one();
        open--;
        return n -> -inner.applyAsInt(n);
      }
      String laws = NAMES.get(peek().text());
      if (laws == null) {
        throw fault(1);
      }
      if (!Arrays.asList(laws.split(" ")).contains(law)) {
        throw fault(5);
      }
      String name = take().text();
      return n -> n.apply(name);
    }
  }

  // ---- lines, nights

  private Text ruling() {
    return now.ruling == NONE ? null : now.texts.get(now.ruling);
  }

  private static boolean areNear(int one, int other) {
    return Math.abs(one / 4 - other / 4) + Math.abs(one % 4 - other % 4) == 1;
  }

  /** A line before people by number, each on the seat told here; still as told here. */
  private Wave wave(Line line, List<Integer> present, int[] seat, boolean[] still) {
    List<Integer> laughing = new ArrayList<>();
    int rounds = 0;
    while (true) {
      List<Integer> come = new ArrayList<>();
      for (int p : present) {
        if (!still[p] && !laughing.contains(p)) {
          int near = (int) laughing.stream().filter(o -> areNear(seat[o], seat[p])).count();
          if (wouldLaugh(line, now.people.get(p), seat[p] / 4, near, laughing.size())) {
            come.add(p);
          }
        }
      }
      if (come.isEmpty()) {
        return new Wave(laughing, rounds);
      }
      rounds++;
      laughing.addAll(come);
    }
  }

  private boolean wouldLaugh(Line line, Person p, int row, int near, int all) {
    if (ruling() == null || ruling().laughs == null) {
      return line.sort() == 1 && line.power() > p.shame;
    }
    Map<String, Integer> names = Map.of("wit", p.wit, "shame", p.shame, "row", row, "sort", line.sort(),
        "power", line.power(), "near", near, "all", all);
    return ruling().laughs.apply(names::get);
  }

  private int loud(Line line, Wave wave, int coughs) {
    if (ruling() == null || ruling().loud == null) {
      return wave.laughing().size() + coughs;
    }
    Map<String, Integer> names = Map.of("laughing", wave.laughing().size(), "rounds", wave.rounds(), "coughs", coughs,
        "sort", line.sort(), "power", line.power());
    return Math.max(0, Math.min(99, ruling().loud.applyAsInt(names::get)));
  }

  private int[] seats() {
    return now.people.stream().mapToInt(p -> p.seat).toArray();
  }

  private boolean[] stills() {
    boolean[] still = new boolean[now.people.size()];
    for (int p = 0; p < still.length; p++) {
      still[p] = now.people.get(p).still;
    }
    return still;
  }

  private List<Integer> sitting() {
    List<Integer> list = new ArrayList<>();
    for (int p = 0; p < now.people.size(); p++) {
      if (now.people.get(p).seat != NONE) {
        list.add(p);
      }
    }
    return list;
  }

  private List<Integer> sitting(int set) {
    List<Integer> list = sitting();
    list.removeIf(p -> (set >> p & 1) == 0);
    return list;
  }

  private int total(List<Integer> present, int[] seat, boolean[] still) {
    int sum = 0;
    for (Line line : now.lines) {
      sum += loud(line, wave(line, present, seat, still), 0);
    }
    return sum;
  }

  private int total(int set) {
    return total(sitting(set), seats(), stills());
  }

  private void step() {
    now.steps.addLast(now.copy(false));
    if (now.steps.size() > 30) {
      now.steps.removeFirst();
    }
  }

  // ---- the face

  int person(int wit, int shame, int cold) {
    if (wit < 0 || wit > 9 || shame < 0 || shame > 9 || cold < 0 || cold > 10 || now.people.size() == 6) {
      return NONE;
    }
    Person p = new Person();
    p.wit = wit;
    p.shame = shame;
    p.cold = cold;
    now.people.add(p);
    return now.people.size() - 1;
  }

  int line(int sort, int power) {
    if (sort < 0 || sort > 2 || power < 0 || power > 9 || now.lines.size() == 10) {
      return NONE;
    }
    now.lines.add(new Line(sort, power));
    return now.lines.size() - 1;
  }

  boolean seed(int seed) {
    if (seed < 0 || seed > 9999) {
      return false;
    }
    now.x = seed * 3 + 17;
    return true;
  }

  int feed(int a, int b, int c, int d, int e) {
    if (tape.length + 20 > 300) {
      return NONE;
    }
    int at = tape.length;
    tape = Arrays.copyOf(tape, at + 20);
    java.nio.ByteBuffer.wrap(tape, at, 20).putInt(a).putInt(b).putInt(c).putInt(d).putInt(e);
    return tape.length;
  }

  int end(int n) {
    if (n < 0 || n > tape.length) {
      return NONE;
    }
    tape = Arrays.copyOf(tape, n);
    return n;
  }

  int text() {
    if (now.texts.size() == 4) {
      return NONE;
    }
    byte[] read = tape;
    tape = new byte[0];
    try {
      now.texts.add(new Parser(read).whole());
      faultWhat = 0;
      faultPlace = NONE;
      return now.texts.size() - 1;
    } catch (Fault fault) {
      faultWhat = fault.what;
      faultPlace = fault.place;
      return NONE;
    }
  }

  int fault(int what) {
    return what == 0 ? faultWhat : what == 1 ? faultPlace : NONE;
  }

  boolean by(int text) {
    if (text < NONE || text >= now.texts.size()) {
      return false;
    }
    now.ruling = text;
    return true;
  }

  boolean seat(int person, int seat) {
    if (person < 0 || person >= now.people.size() || seat < NONE || seat > 15) {
      return false;
    }
    if (now.people.get(person).seat == seat || seat != NONE && now.people.stream().anyMatch(p -> p.seat == seat)) {
      return false;
    }
    step();
    now.people.get(person).seat = seat;
    return true;
  }

  boolean hire(int person, boolean is) {
    if (person < 0 || person >= now.people.size() || now.people.get(person).still == is) {
      return false;
    }
    step();
    now.people.get(person).still = is;
    return true;
  }

  int night() {
    List<Integer> sitting = sitting();
    if (sitting.isEmpty()) {
      return NONE;
    }
    step();
    int bill = 0;
    int[] often = new int[6];
    int[] coughed = new int[6];
    for (Line line : now.lines) {
      Wave wave = wave(line, sitting, seats(), stills());
      int coughs = 0;
      for (int p : sitting) {
        if (wave.laughing().contains(p)) {
          often[p]++;
        }
        if (now.x % 10 < now.people.get(p).cold) {
          coughs++;
          coughed[p]++;
        }
        now.x = (now.x * 227 + 61) % 30119;
      }
      bill += loud(line, wave, coughs);
    }
    for (int p : sitting) {
      Person who = now.people.get(p);
      int dues = bill / sitting.size();
      if (ruling() != null && ruling().dues != null) {
        Map<String, Integer> names = Map.of("wit", who.wit, "shame", who.shame, "row", who.seat / 4, "bill", bill,
            "people", sitting.size(), "often", often[p], "coughed", coughed[p]);
        dues = Math.max(0, Math.min(999, ruling().dues.applyAsInt(names::get)));
      }
      who.paid += dues;
    }
    now.nights++;
    return bill;
  }

  int played(int text) {
    if (text < 0 || text >= now.texts.size()) {
      return -2;
    }
    List<Clause> clauses = now.texts.get(text).clauses;
    for (int i = 0; i < clauses.size(); i++) {
      Clause c = clauses.get(i);
      boolean can = switch (c.word()) {
        case "seat" -> seat(c.person(), c.seat());
        case "out" -> seat(c.person(), NONE);
        case "hire" -> hire(c.person(), true);
        case "night" -> night() != NONE;
        default -> true;
      };
      if (!can) {
        return i;
      }
    }
    return NONE;
  }

  int undo() {
    if (now.steps.isEmpty()) {
      return NONE;
    }
    State ahead = now.steps.removeLast();
    for (int p = 0; p < now.people.size(); p++) {
      Person was = p < ahead.people.size() ? ahead.people.get(p) : new Person();
      now.people.get(p).seat = was.seat;
      now.people.get(p).still = was.still;
      now.people.get(p).paid = was.paid;
    }
    now.x = ahead.x;
    now.nights = ahead.nights;
    return now.steps.size();
  }

  int of(int person, int what) {
    if (person < 0 || person >= now.people.size() || what < 0 || what > 5) {
      return -2;
    }
    Person p = now.people.get(person);
    return List.of(p.seat, p.still ? 1 : 0, p.paid, p.wit, p.shame, p.cold).get(what);
  }

  int wave(int line, int what) {
    if (line < 0 || line >= now.lines.size() || what < 0 || what > 4) {
      return NONE;
    }
    Line it = now.lines.get(line);
    Wave wave = wave(it, sitting(), seats(), stills());
    int bits = wave.laughing().stream().mapToInt(p -> 1 << p).sum();
    return List.of(bits, wave.rounds(), loud(it, wave, 0), it.sort(), it.power()).get(what);
  }

  int all(int set) {
    return set < 0 || set > 63 ? NONE : total(set);
  }

  int caused(int person) {
    return sitting().contains(person) ? total(63) - total(63 - (1 << person)) : -1000;
  }

  int fair(int person, int what) {
    if (!sitting().contains(person) || what < 0 || what > 1) {
      return -1000000;
    }
    int upper = 0;
    int lower = 0;
    for (List<Integer> order : orders(sitting())) {
      int ahead = 0;
      for (int p : order) {
        if (p == person) {
          break;
        }
        ahead |= 1 << p;
      }
      upper += growth(ahead, person);
      lower++;
    }
    growths.clear();
    int common = java.math.BigInteger.valueOf(upper).gcd(java.math.BigInteger.valueOf(lower)).intValue();
    return (what == 0 ? upper : lower) / common;
  }

  private final Map<Integer, Integer> growths = new java.util.HashMap<>();

  private int growth(int ahead, int person) {
    Integer known = growths.get(ahead);
    if (known == null) {
      known = total(ahead | 1 << person) - total(ahead);
      growths.put(ahead, known);
    }
    return known;
  }

  static List<List<Integer>> orders(List<Integer> of) {
    List<List<Integer>> all = new ArrayList<>();
    if (of.isEmpty()) {
      all.add(new ArrayList<>());
    }
    for (int first : of) {
      List<Integer> rest = new ArrayList<>(of);
      rest.remove(Integer.valueOf(first));
      for (List<Integer> order : orders(rest)) {
        order.add(0, first);
        all.add(order);
      }
    }
    return all;
  }

  int quietest(int seat) {
    if (seat < NONE || seat > 15) {
      return -2;
    }
    int[] taken = Arrays.stream(seats()).filter(s -> s != NONE).sorted().toArray();
    int least = Integer.MAX_VALUE;
    List<Integer> best = null;
    for (List<Integer> order : orders(sitting())) {
      int[] seats = seats();
      for (int i = 0; i < taken.length; i++) {
        seats[order.get(i)] = taken[i];
      }
      int sum = total(sitting(), seats, stills());
      if (sum < least) {
        least = sum;
        best = order;
      }
    }
    if (seat == NONE) {
      return least;
    }
    int at = Arrays.binarySearch(taken, seat);
    return at < 0 ? NONE : best.get(at);
  }

  int cut(int bill) {
    if (bill < 0 || bill > 990) {
      return NONE;
    }
    int n = now.lines.size();
    int[] louds = new int[n];
    for (int i = 0; i < n; i++) {
      louds[i] = wave(i, 2);
    }
    for (int fewest = 0; fewest <= n; fewest++) {
      for (int set = 0; set < 1 << n; set++) {
        int sum = 0;
        for (int i = 0; i < n; i++) {
          sum += (set >> i & 1) == 0 ? louds[i] : 0;
        }
        if (Integer.bitCount(set) == fewest && sum <= bill) {
          return set;
        }
      }
    }
    throw new IllegalStateException("without all lines nothing is loud");
  }

  int stilled(int bill) {
    if (bill < 0 || bill > 990) {
      return NONE;
    }
    List<Integer> sitting = sitting();
    int can = sitting.stream().filter(p -> !now.people.get(p).still).mapToInt(p -> 1 << p).sum();
    for (int fewest = 0; fewest <= 6; fewest++) {
      for (int set = 0; set < 64; set++) {
        if ((set & ~can) == 0 && Integer.bitCount(set) == fewest) {
          boolean[] still = stills();
          for (int p : sitting) {
            still[p] |= (set >> p & 1) != 0;
          }
          if (total(sitting, seats(), still) <= bill) {
            return set;
          }
        }
      }
    }
    return NONE;
  }

  int seen(int loud) {
    if (loud == NONE) {
      now.seen.clear();
      return 0;
    }
    if (loud < 0 || loud > 99 || now.seen.size() == now.lines.size()) {
      return -2;
    }
    now.seen.add(loud);
    return now.seen.size();
  }

  int who(int i) {
    List<Integer> sets = new ArrayList<>();
    int sit = sitting().stream().mapToInt(p -> 1 << p).sum();
    for (int set = 0; set < 64; set++) {
      if ((set & ~sit) == 0) {
        boolean so = true;
        for (int line = 0; line < now.seen.size(); line++) {
          Line it = now.lines.get(line);
          so &= loud(it, wave(it, sitting(set), seats(), stills()), 0) == now.seen.get(line);
        }
        if (so) {
          sets.add(set);
        }
      }
    }
    if (i == NONE) {
      return sets.size();
    }
    return i >= 0 && i < sets.size() ? sets.get(i) : NONE;
  }

  int image() {
    image = now.copy(true);
    return now.nights;
  }

  int back() {
    now = image.copy(true);
    return now.nights;
  }

  int about(int what) {
    if (what >= 10 && what <= 25) {
      for (int p = 0; p < now.people.size(); p++) {
        if (now.people.get(p).seat == what - 10) {
          return p;
        }
      }
      return NONE;
    }
    return switch (what) {
      case 0 -> now.people.size();
      case 1 -> now.lines.size();
      case 2 -> now.nights;
      case 3 -> now.x;
      case 4 -> now.texts.size();
      case 5 -> now.ruling;
      case 6 -> now.steps.size();
      case 7 -> now.seen.size();
      case 8 -> tape.length;
      default -> -2;
    };
  }
}
