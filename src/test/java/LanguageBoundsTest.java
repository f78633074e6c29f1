/** The document's part II, texts and their faults: each sentence on both sides of its bounds. */
public final class LanguageBoundsTest {
  private static final int NONE = SilentHouse.NONE;
  private static final String[] NAMES = {"wit", "shame", "row", "sort", "power", "near", "all", "laughing", "rounds", "coughs",
    "bill", "people", "often", "coughed"};
  private static final String[] OTHER_WORDS = {"laughs", "loud", "dues", "seat", "out", "hire", "night", "at", "or", "and", "not"};

  private LanguageBoundsTest() {
  }

  public static void main(String[] args) {
    texts0To3OfUpTo300Bytes();
    tokensUpTo300();
    nothingOfAFaultyTextStays();
    everyByteBehindAWord();
    everyByteBehindANumber();
    lettersAndDigitsOneBehindTheOther();
    theLongest();
    clauses24AtMost();
    clausesAsTheyAreSpelled();
    clausesWithoutOneToken();
    eitherAndBoth();
    askIsNotOrARelation();
    sumsAndProducts();
    ones();
    namesByClause();
    fromTheLeftAndCutTowards0();
    above1000000IsThat();
    bothSidesAlways();
    theFirstFaultAtItsFirstByte();
    ofOneTheLeast();
    fault1CantStandThere();
    fault2NumbersThatArentTold();
    fault3TheNinthThatIsOpen();
    fault4ALawForTheSecondTime();
    fault5ANameOfAnotherClause();
    fault6The25thClause();
    theTextRules();
    oneThatCantBeEndsIt();
    playedByAText();
    Sentence.everyOneOf("II.");
    Due.end();
  }

  private static void fault(Sentence s, String text, int fault, int place) {
    SilentHouse house = new SilentHouse();
    String shown = text.length() > 60 ? text.substring(0, 57) + ".." : text;
    s.be("text of " + shown, Tape.read(house, text), fault == 0 ? 0 : NONE);
    s.be("fault of " + shown, house.fault(0), fault);
    s.be("place of " + shown, house.fault(1), place);
    s.be("the tape behind " + shown, house.about(8), 0);
    s.be("texts behind " + shown, house.about(4), fault == 0 ? 1 : 0);
  }

  private static void good(Sentence s, String text) {
    fault(s, text, 0, NONE);
  }

  /** Whether one laughs by it: wit 3, shame 4, row 2, a sorrow of power 6. */
  private static void holds(Sentence s, String either, boolean due) {
    SilentHouse house = Houses.one();
    Houses.law(house, "laughs " + either + ";");
    s.be(either, house.wave(0, 0) == 1, due);
  }

  private static void same(Sentence s, String sum, String other) {
    holds(s, sum + " = " + other, true);
    holds(s, sum + " # " + other, false);
  }

  private static void texts0To3OfUpTo300Bytes() {
    Sentence s = Sentence.of("II.", "TEXTS 0 .. 3: of up to 300 bytes.");
    SilentHouse house = new SilentHouse();
    s.be("the first, of none", house.text(), 0);
    s.be("the second, of one", Tape.read(house, " "), 1);
    s.be("the third, of 299", Tape.read(house, "night;" + " ".repeat(293)), 2);
    s.be("the fourth, of 300", Tape.read(house, " ".repeat(294) + "night;"), 3);
    s.be("no fifth", Tape.read(house, ""), NONE);
    fault(s, " ".repeat(299) + "!", 1, 299);
    fault(s, " ".repeat(295) + "night", 1, 300);
    SilentHouse full = new SilentHouse();
    Tape.put(full, " ".repeat(300));
    s.be("no more than 300 bytes", full.feed(0, 0, 0, 0, 0), NONE);
  }

  private static void tokensUpTo300() {
    Sentence s = Sentence.of("II.", "of up to 300 bytes.");
    String[] signs = {";", "(", "1", "a", "<", "=", "-", "!"};
    for (String sign : signs) {
      fault(s, sign.repeat(300), 1, 0);
    }
    fault(s, "1;".repeat(150), 1, 0);
    fault(s, "loud " + "-".repeat(295), 3, 13);
    fault(s, "loud 1" + "+".repeat(294), 1, 7);
    good(s, "loud" + "\n".repeat(2) + "1" + "-1".repeat(146) + ";");
    fault(s, "loud 1" + "-1".repeat(147), 1, 300);
  }

  private static void nothingOfAFaultyTextStays() {
    Sentence s = Sentence.of("II.", "of up to 300 bytes.");
    SilentHouse house = Houses.one();
    String wrong = "laughs 1 < 2; loud 5; dues 1" + "-1".repeat(120) + "!";
    for (int i = 0; i < 8; i++) {
      s.be("a fault", Tape.read(house, wrong), NONE);
      s.be("at its end", house.fault(1), wrong.length() - 1);
    }
    Houses.law(house, "dues 1" + "+1".repeat(100) + ";");
    house.night();
    s.be("its own law", house.of(0, 2), 101);
    s.be("no law of another text", house.wave(0, 0), 0);
    s.be("no law of another text", house.wave(0, 2), 0);
    Houses.law(house, "dues 2" + "+1".repeat(100) + ";");
    house.night();
    s.be("its own law", house.of(0, 2), 101 + 102);
    house.by(0);
    house.night();
    s.be("the first is as it was", house.of(0, 2), 101 + 102 + 101);
  }

  private static boolean isLetter(int sign) {
    return sign >= 'a' && sign <= 'z' || sign >= 'A' && sign <= 'Z';
  }

  private static boolean isBlank(int sign) {
    return sign == 32 || sign == 10;
  }

  private static void everyByteBehindAWord() {
    Sentence s = Sentence.of("II.", "TOKENS, blanks (32, 10) aside: letters a .. z, A .. Z one behind the other (one TOKEN)");
    for (int sign = 0; sign < 256; sign++) {
      String text = "night" + (char) sign + ";";
      if (isBlank(sign)) {
        good(s, text);
      } else if (sign == ';') {
        fault(s, text, 1, 6);
      } else {
        // With a letter it is another word, at its first byte; all else can't stand behind night.
        fault(s, text, 1, isLetter(sign) ? 0 : 5);
      }
    }
  }

  private static void everyByteBehindANumber() {
    Sentence s = Sentence.of("II.", "digits likewise (NUMBERS, 0 .. 9999)");
    for (int sign = 0; sign < 256; sign++) {
      String text = "loud 1" + (char) sign + ";";
      if (isBlank(sign) || sign >= '0' && sign <= '9') {
        good(s, text);
      } else {
        boolean goesOn = sign == '+' || sign == '-' || sign == '*' || sign == '/' || sign == ';';
        fault(s, text, 1, goesOn ? 7 : 6);
      }
    }
    good(s, "loud 0;");
    good(s, "loud 9999;");
    fault(s, "loud 10000;", 2, 5);
    good(s, "loud 000000009999;");
    fault(s, "loud 00000000010000;", 2, 5);
    fault(s, "loud 2147483648;", 2, 5);
    fault(s, "loud 4294967296;", 2, 5);
    fault(s, "loud 4294967297;", 2, 5);
    fault(s, "loud 18446744073709551616;", 2, 5);
    fault(s, "loud " + "9".repeat(294) + ";", 2, 5);
    good(s, "loud " + "0".repeat(294) + ";");
    same(s, "0009999", "9998 + 1");
    same(s, "0", "1 - 1");
  }

  private static void lettersAndDigitsOneBehindTheOther() {
    Sentence s = Sentence.of("II.", "one behind the other (one TOKEN)");
    fault(s, "nightnight;", 1, 0);
    fault(s, "night night;", 1, 6);
    fault(s, "nigh t;", 1, 0);
    fault(s, "nigh\nt;", 1, 0);
    fault(s, "loud 1 2;", 1, 7);
    fault(s, "loud 1\n2;", 1, 7);
    good(s, "seat 0at 5;");
    good(s, "seat 0 at15;");
    fault(s, "seat0 at 5!", 1, 10);
    good(s, "seat0at5;out0;hire0;night;loud1;dues2;laughs1<2and1<2or1<2;");
    fault(s, "laughs not1<2andnot 1<2;", 1, 13);
    good(s, "\n \nnight\n;\n");
  }

  private static void theLongest() {
    Sentence s = Sentence.of("II.", "<= >= < > = # + - * / ( ) ; (the longest).");
    good(s, "laughs 1<=2;");
    good(s, "laughs 1>=2;");
    good(s, "laughs 1<2;");
    good(s, "laughs 1>2;");
    good(s, "laughs 1=2;");
    good(s, "laughs 1#2;");
    fault(s, "laughs 1< =2;", 1, 10);
    fault(s, "laughs 1> =2;", 1, 10);
    fault(s, "laughs 1<\n=2;", 1, 10);
    fault(s, "laughs 1<==2;", 1, 10);
    fault(s, "laughs 1>==2;", 1, 10);
    fault(s, "laughs 1=<2;", 1, 9);
    fault(s, "laughs 1=>2;", 1, 9);
    fault(s, "laughs 1==2;", 1, 9);
    fault(s, "laughs 1<>2;", 1, 9);
    fault(s, "laughs 1<<2;", 1, 9);
    fault(s, "laughs 1#=2;", 1, 9);
    good(s, "laughs 1<-2;");
    good(s, "laughs 1<(2);");
    holds(s, "2<=2", true);
    holds(s, "2>=2", true);
    SilentHouse house = new SilentHouse();
    Tape.put(house, "laughs 1<=2;");
    house.end(9);
    house.text();
    s.be("behind the end there is no =", house.fault(1), 9);
  }

  private static void clauses24AtMost() {
    Sentence s = Sentence.of("II.", "{CLAUSE}, 24 at most");
    good(s, "");
    good(s, " ");
    good(s, "night;");
    good(s, "night;".repeat(23));
    good(s, "night;".repeat(24));
    good(s, "night;".repeat(24) + " \n ");
    fault(s, "night;".repeat(25), 6, 144);
    good(s, "laughs 1<2;loud 1;dues 1;" + "out 0;".repeat(21));
    fault(s, "laughs 1<2;loud 1;dues 1;" + "out 0;".repeat(22), 6, 25 + 126);
  }

  private static void clausesAsTheyAreSpelled() {
    Sentence s = Sentence.of("II.", "laughs EITHER ; or loud SUM ; or dues SUM ; (each once) or seat NUMBER at NUMBER ; or out NUMBER ; "
        + "or hire NUMBER ; or night ;.");
    String[] clauses = {"laughs 1 < 2 ;", "loud 1 ;", "dues 1 ;", "seat 0 at 0 ;", "out 0 ;", "hire 0 ;", "night ;"};
    for (String clause : clauses) {
      good(s, clause);
      String[] tokens = clause.split(" ");
      StringBuilder beginning = new StringBuilder();
      for (int i = 0; i < tokens.length; i++) {
        if (i > 0) {
          fault(s, beginning.toString(), 1, beginning.length());
          fault(s, beginning + " !", 1, beginning.length() + 1);
        }
        beginning.append(i == 0 ? "" : " ").append(tokens[i]);
      }
      fault(s, clause + ";", 1, clause.length());
      fault(s, clause + "1", 1, clause.length());
    }
    for (String name : NAMES) {
      fault(s, name + ";", 1, 0);
    }
    String[] noBeginning = {"at", "or", "and", "not"};
    for (String word : noBeginning) {
      fault(s, word + ";", 1, 0);
    }
    fault(s, "Loud 1;", 1, 0);
    fault(s, "LOUD 1;", 1, 0);
    fault(s, "lou 1;", 1, 0);
    fault(s, "louds 1;", 1, 0);
    fault(s, "seat 0 At 3;", 1, 7);
    fault(s, "seat -0 at 3;", 1, 5);
    fault(s, "seat 0 at (3);", 1, 10);
    fault(s, "seat 0 at 1+1;", 1, 11);
    fault(s, "out wit;", 1, 4);
    fault(s, "loud 1 < 2;", 1, 7);
    fault(s, "dues not 1;", 1, 5);
    fault(s, "laughs 1;", 1, 8);
  }

  /** Each clause with one of its tokens left out: at the place of the one behind it. */
  private static void clausesWithoutOneToken() {
    Sentence s = Sentence.of("II.", "seat NUMBER at NUMBER ; or out NUMBER ; or hire NUMBER ; or night ;.");
    fault(s, "0 at 0;", 1, 0);
    fault(s, "seat at 0;", 1, 5);
    fault(s, "seat 0 0;", 1, 7);
    fault(s, "seat 0 at ;", 1, 10);
    fault(s, "seat 0 at 0", 1, 11);
    fault(s, "seat;", 1, 4);
    fault(s, "seat 0;", 1, 6);
    fault(s, "out;", 1, 3);
    fault(s, "out 0 night;", 1, 6);
    fault(s, "hire;", 1, 4);
    fault(s, "hire 0 night;", 1, 7);
    fault(s, "night night;", 1, 6);
    fault(s, "loud;", 1, 4);
    fault(s, "dues;", 1, 4);
    fault(s, "laughs;", 1, 6);
    fault(s, "laughs 1 <;", 1, 10);
    fault(s, "laughs < 1;", 1, 7);
    fault(s, "laughs 1 1;", 1, 9);
    fault(s, "loud 1 night;", 1, 7);
  }

  private static void eitherAndBoth() {
    Sentence s = Sentence.of("II.", "EITHER: BOTH {or BOTH}.");
    good(s, "laughs 1<2;");
    good(s, "laughs 1<2" + " or 1<2".repeat(41) + ";");
    fault(s, "laughs ;", 1, 7);
    fault(s, "laughs or 1<2;", 1, 7);
    fault(s, "laughs 1<2 or ;", 1, 14);
    fault(s, "laughs 1<2 or or 1<2;", 1, 14);
    fault(s, "laughs 1<2 1<2;", 1, 11);
    holds(s, "1<2 or 1<2 and 1>2", true);
    holds(s, "1>2 and 1<2 or 1<2", true);
    Sentence both = Sentence.of("II.", "BOTH: ASK {and ASK}.");
    good(both, "laughs 1<2" + " and 1<2".repeat(36) + ";");
    fault(both, "laughs and 1<2;", 1, 7);
    fault(both, "laughs 1<2 and ;", 1, 15);
    fault(both, "laughs 1<2 and or 1<2;", 1, 15);
    fault(both, "laughs (1<2) and 1<2;", 1, 9);
    holds(both, "1<2 and 1<2 and 1<2", true);
    holds(both, "1<2 and 1<2 and 1>2", false);
    holds(both, "1>2 and 1<2 and 1<2", false);
  }

  private static void askIsNotOrARelation() {
    Sentence s = Sentence.of("II.", "ASK: not ASK, or SUM one of < <= > >= = # (unlike) SUM.");
    String[] relations = {"<", "<=", ">", ">=", "=", "#"};
    boolean[][] due = {{true, false, false}, {true, true, false}, {false, false, true}, {false, true, true}, {false, true, false},
      {true, false, true}};
    String[][] pairs = {{"4", "5", "6"}, {"-1", "0", "1"}, {"9998", "9999", "9999 + 1"}, {"-6", "-5", "-4"}};
    for (int relation = 0; relation < relations.length; relation++) {
      for (String[] pair : pairs) {
        for (int i = 0; i < 3; i++) {
          holds(s, pair[i] + " " + relations[relation] + " " + pair[1], due[relation][i]);
          holds(s, "not " + pair[i] + " " + relations[relation] + " " + pair[1], !due[relation][i]);
        }
      }
    }
    holds(s, "not not 1<2", true);
    holds(s, "not 1>2 and 1>2", false);
    holds(s, "not 1<2 or 1<2", true);
    fault(s, "laughs not;", 1, 10);
    fault(s, "laughs not 1;", 1, 12);
    fault(s, "laughs not not;", 1, 14);
    fault(s, "laughs 1 not 2;", 1, 9);
    fault(s, "laughs not (1<2);", 1, 13);
    fault(s, "laughs 1<2<3;", 1, 10);
    fault(s, "laughs 1<;", 1, 9);
    fault(s, "laughs <1;", 1, 7);
    fault(s, "laughs -not 1<2;", 1, 8);
  }

  private static void sumsAndProducts() {
    Sentence s = Sentence.of("II.", "SUM: PRODUCT {+ or - PRODUCT}.");
    same(s, "1 + 2 * 3", "7");
    same(s, "2 * 3 + 1", "7");
    same(s, "10 - 2 * 3", "4");
    fault(s, "loud +1;", 1, 5);
    fault(s, "loud 1+;", 1, 7);
    fault(s, "loud 1++1;", 1, 7);
    fault(s, "loud 1-+1;", 1, 7);
    good(s, "loud 1+-1;");
    good(s, "loud 1--1;");
    Sentence product = Sentence.of("II.", "PRODUCT: ONE {* or / ONE}.");
    same(product, "2 * 3 * 4", "24");
    same(product, "-2 * -3", "6");
    fault(product, "loud *1;", 1, 5);
    fault(product, "loud 1*;", 1, 7);
    fault(product, "loud 1**1;", 1, 7);
    fault(product, "loud 1*/1;", 1, 7);
    fault(product, "loud /;", 1, 5);
    good(product, "loud 1*-1;");
    good(product, "loud 1/0;");
  }

  private static void ones() {
    Sentence s = Sentence.of("II.", "ONE: NUMBER, NAME, ( SUM ), - ONE.");
    same(s, "(((7)))", "7");
    same(s, "-(2 + 3)", "0 - 5");
    same(s, "--5", "5");
    same(s, "-2 + 5", "3");
    same(s, "2 * -(3 - 4)", "2");
    same(s, "wit", "3");
    fault(s, "loud ();", 1, 6);
    fault(s, "loud (1;", 1, 7);
    fault(s, "loud (1", 1, 7);
    fault(s, "loud 1);", 1, 6);
    fault(s, "loud );", 1, 5);
    fault(s, "loud (1 2);", 1, 8);
    fault(s, "loud (1)(2);", 1, 8);
    fault(s, "loud 1(2);", 1, 6);
    fault(s, "loud -;", 1, 6);
    fault(s, "loud -);", 1, 6);
    fault(s, "loud", 1, 4);
    for (String word : OTHER_WORDS) {
      fault(s, "loud " + word + ";", 1, 5);
      fault(s, "laughs 1 < " + word + ";", 1, 11);
    }
    String[] unknown = {"foo", "Wit", "WIT", "wi", "wits", "x", "laughin", "coughe", "coughedd"};
    for (String word : unknown) {
      fault(s, "dues " + word + ";", 1, 5);
    }
  }

  private static boolean isOf(String name, String names) {
    return (" " + names + " ").contains(" " + name + " ");
  }

  private static void namesByClause() {
    Sentence s = Sentence.of("II.", "NAMES: wit, shame, row (of the SEAT) in laughs and dues; sort, power in laughs and loud; near, all in "
        + "laughs; laughing (how many), rounds, coughs in loud; bill, people (how many sit), often (at how many LINES one laughed), "
        + "coughed (how often) in dues.");
    for (String name : NAMES) {
      if (isOf(name, "wit shame row sort power near all")) {
        good(s, "laughs " + name + " < 1;");
        good(s, "laughs not -(" + name + ") < 1;");
      }
      if (isOf(name, "sort power laughing rounds coughs")) {
        good(s, "loud " + name + ";");
        good(s, "loud -(" + name + ");");
      }
      if (isOf(name, "wit shame row bill people often coughed")) {
        good(s, "dues " + name + ";");
        good(s, "dues 1 / " + name + ";");
      }
    }
    holds(s, "wit = 3 and shame = 4 and row = 2 and sort = 2 and power = 6 and near = 0 and all = 0", true);
    SilentHouse house = new SilentHouse();
    house.person(9, 8, 10);
    house.person(0, 0, 0);
    house.seat(0, 15);
    house.seat(1, 11);
    house.line(1, 9);
    house.line(2, 0);
    Houses.law(house, "laughs wit = 0 or near = 1; loud sort * 1 + power * 2 + laughing * 4 + rounds * 8 + coughs * 16; "
        + "dues wit + shame * 10 + row * 100 + people * 200 + often - coughed + bill - bill;");
    // Both laugh at both lines, in two rounds; one coughs at each.
    s.be("names in loud", house.night(), 1 + 18 + 8 + 16 + 16 + (2 + 0 + 8 + 16 + 16));
    s.be("names in dues", house.of(0, 2), 9 + 80 + 300 + 400 + 2 - 2);
    s.be("names in dues", house.of(1, 2), 200 + 400 + 2);
    SilentHouse sorts = Houses.people(1);
    for (int line = 0; line < 6; line++) {
      sorts.line(2 - line % 3, line);
    }
    Houses.law(sorts, "loud sort * 10 + power;");
    for (int line = 0; line < 6; line++) {
      s.be("sort and power in loud", sorts.wave(line, 2), (2 - line % 3) * 10 + line);
    }
    Houses.law(house, "loud power; dues bill;");
    house.night();
    s.be("the bill", house.of(1, 2), 200 + 400 + 2 + 9);
  }

  private static void fromTheLeftAndCutTowards0() {
    Sentence s = Sentence.of("II.", "From the left; / cuts towards 0, by 0 it is 0");
    same(s, "10 - 3 - 2", "5");
    same(s, "10 - 3 + 2", "9");
    same(s, "100 / 7 / 2", "7");
    same(s, "100 / 7 * 2", "28");
    same(s, "7 * 3 / 2", "10");
    same(s, "7 / 2 * 2", "6");
    String[][] cuts = {{"7 / 2", "3"}, {"-7 / 2", "-3"}, {"7 / -2", "-3"}, {"-7 / -2", "3"}, {"1 / 2", "0"}, {"-1 / 2", "0"},
      {"0 / 5", "0"}, {"6 / 3", "2"}, {"-6 / 3", "-2"}, {"5 / 6", "0"}, {"9999 / 1", "9999"}, {"9999 / 9999", "1"}, {"9998 / 9999", "0"}};
    for (String[] cut : cuts) {
      same(s, cut[0], cut[1]);
    }
    String[] byNone = {"5 / 0", "-5 / 0", "0 / 0", "5 / (3 - 3)", "5 / 0 * 9999", "1000 * 1000 / 0", "5 / -0"};
    for (String one : byNone) {
      same(s, one, "0");
    }
    same(s, "4 + 5 / 0", "4");
    same(s, "5 / (1 / 2)", "0");
  }

  private static void above1000000IsThat() {
    Sentence s = Sentence.of("II.", "what is above 1000000 (below the same less) is that, at each step.");
    String million = "1000 * 1000";
    same(s, "999 * 1001", million + " - 1");
    holds(s, "999 * 1001 < " + million, true);
    same(s, million + " + 0", million);
    same(s, million + " + 1", million);
    same(s, "999 * 1001 + 1", million);
    same(s, "999 * 1001 + 2", million);
    same(s, "1001 * 1000", million);
    same(s, "9999 * 9999", million);
    same(s, million + " + 1 - 1", "999 * 1001");
    same(s, "9999 * 9999 * 9999 * 9999 / 9999", "100");
    same(s, "9999 * 9999 - 9999 * 9999", "0");
    String less = "-1000 * 1000";
    same(s, "-999 * 1001", less + " + 1");
    holds(s, "-999 * 1001 > " + less, true);
    same(s, less + " - 0", less);
    same(s, less + " - 1", less);
    same(s, "-999 * 1001 - 1", less);
    same(s, "-999 * 1001 - 2", less);
    same(s, "-9999 * 9999", less);
    same(s, less + " - 1 + 1", "-999 * 1001");
    same(s, "-9999 * 9999 * 9999", less);
    same(s, "-9999 * 9999 * -9999", million);
    same(s, "-(" + million + ")", less);
    same(s, "-(" + less + ")", million);
    same(s, million + " + (" + less + ")", "0");
    same(s, million + " / -1", less);
  }

  private static void bothSidesAlways() {
    Sentence s = Sentence.of("II.", "or and and look at both sides always.");
    String[] sides = {"1 > 2", "1 < 2"};
    for (int left = 0; left < 2; left++) {
      for (int right = 0; right < 2; right++) {
        holds(s, sides[left] + " or " + sides[right], left + right > 0);
        holds(s, sides[left] + " and " + sides[right], left + right > 1);
        holds(s, sides[left] + " or " + sides[right] + " / 0", left == 1 || right == 0);
      }
    }
    fault(s, "laughs 1 < 2 or 10000 < 1;", 2, 16);
    fault(s, "laughs 1 > 2 and bill < 1;", 5, 17);
  }

  private static void theFirstFaultAtItsFirstByte() {
    Sentence s = Sentence.of("II.", "FAULTS, the first as TOKENS are come to, at the TOKEN's first byte (of the end at the length)");
    fault(s, "loud near + foo;", 5, 5);
    fault(s, "loud foo + near;", 1, 5);
    fault(s, "loud 10000 + near", 2, 5);
    fault(s, "seat 6 at 16;", 2, 5);
    fault(s, "seat 5 at 16!", 2, 10);
    fault(s, "loud 1; loud 2; foo", 4, 8);
    fault(s, "   foo", 1, 3);
    fault(s, "night  \n  foo", 1, 10);
    fault(s, "night; loudd 1;", 1, 7);
    fault(s, "loud 1 + 123456;", 2, 9);
    fault(s, "laughs 1 < 2 >= 3;", 1, 13);
    fault(s, "n", 1, 0);
    fault(s, "night", 1, 5);
    fault(s, "night ", 1, 6);
    fault(s, "night; out 0 ", 1, 13);
    fault(s, "loud 1" + " ".repeat(294), 1, 300);
    // The bytes behind the first fault are not come to.
    fault(s, "!" + "night;".repeat(49), 1, 0);
  }

  private static void ofOneTheLeast() {
    Sentence s = Sentence.of("II.", "of one the least");
    fault(s, "night 10000;", 1, 6);
    fault(s, "loud 1 10000;", 1, 7);
    fault(s, "loud 1 near;", 1, 7);
    fault(s, "loud ((((((((1(;", 1, 14);
    fault(s, "laughs not not not not not not not not 1 not;", 1, 41);
    fault(s, "loud 1;" + "night;".repeat(23) + "loud 2;", 4, 145);
    fault(s, "loud 1;" + "night;".repeat(23) + "dues 2;", 6, 145);
    fault(s, "night;".repeat(24) + "foo", 1, 144);
    fault(s, "night;".repeat(24) + "10000", 1, 144);
    fault(s, "night;".repeat(24) + "wit", 1, 144);
    fault(s, "night;".repeat(24) + ";", 1, 144);
    fault(s, "loud 1; dues loud;", 1, 13);
    fault(s, "out 10000;", 2, 4);
  }

  private static void fault1CantStandThere() {
    Sentence s = Sentence.of("II.", "1 it can't stand there, or is none.");
    int[] none = {0, 1, 9, 11, 13, 31, '!', '"', '$', '%', '&', '\'', ',', '.', ':', '?', '@', '[', '\\', ']', '^', '_', '`', '{', '|',
      '}', '~', 127, 128, 138, 160, 170, 255};
    for (int sign : none) {
      fault(s, "" + (char) sign, 1, 0);
      fault(s, "loud 1 +" + (char) sign + "2;", 1, 8);
      fault(s, "night;" + (char) sign, 1, 6);
    }
    fault(s, ";", 1, 0);
    fault(s, "1", 1, 0);
    fault(s, "(", 1, 0);
    fault(s, "<=", 1, 0);
  }

  private static void fault2NumbersThatArentTold() {
    Sentence s = Sentence.of("II.", "2 a NUMBER that isn't one of those told (above 9999; PEOPLE 0 .. 5, SEATS 0 .. 15).");
    String[] people = {"seat ? at 3;", "out ?;", "hire ?;"};
    for (String clause : people) {
      int place = clause.indexOf('?');
      good(s, clause.replace("?", "0"));
      good(s, clause.replace("?", "5"));
      good(s, clause.replace("?", "005"));
      fault(s, clause.replace("?", "6"), 2, place);
      fault(s, clause.replace("?", "10"), 2, place);
      fault(s, clause.replace("?", "9999"), 2, place);
      fault(s, clause.replace("?", "10000"), 2, place);
      fault(s, clause.replace("?", "4294967296"), 2, place);
    }
    good(s, "seat 0 at 0;");
    good(s, "seat 0 at 15;");
    fault(s, "seat 0 at 16;", 2, 10);
    fault(s, "seat 0 at 9999;", 2, 10);
    fault(s, "seat 0 at 10000;", 2, 10);
    String[] sums = {"loud ?;", "dues (?);", "laughs ? < 1;", "laughs 1 < -?;", "loud 1 * ?;"};
    for (String sum : sums) {
      good(s, sum.replace("?", "9999"));
      fault(s, sum.replace("?", "10000"), 2, sum.indexOf('?'));
    }
  }

  private static void fault3TheNinthThatIsOpen() {
    Sentence s = Sentence.of("II.", "3 the 9th of ( not and - (of one ONE) that are open around one another (at it).");
    String[] marks = {"(", "-", "not "};
    for (int mask = 0; mask < 27; mask++) {
      // Eight in three parts, not first, since it can't stand behind the others.
      int nots = mask % 3 * 2;
      int minus = mask / 3 % 3;
      int opens = 8 - nots - minus;
      String eight = "laughs " + marks[2].repeat(nots) + marks[1].repeat(minus) + marks[0].repeat(opens);
      String closed = ")".repeat(opens) + " < 1;";
      good(s, eight + "1" + closed);
      fault(s, eight + "(1)" + closed, 3, eight.length());
      fault(s, eight + "-1" + closed, 3, eight.length());
      good(s, eight + "1 - 1" + closed);
      String other = "laughs " + marks[2].repeat(nots) + "1 < " + marks[1].repeat(minus) + marks[0].repeat(opens);
      good(s, other + "1" + ")".repeat(opens) + ";");
      fault(s, other + "-1" + ")".repeat(opens) + ";", 3, other.length());
    }
    good(s, "laughs not not not not not not not not 1 < 2;");
    fault(s, "laughs not not not not not not not not not 1 < 2;", 3, 39);
    fault(s, "laughs not not not not not not not not -1 < 2;", 3, 39);
    fault(s, "laughs not not not not not not not not 1 < -2;", 3, 43);
    fault(s, "laughs not not not not not not not not 1 < 2 + (3);", 3, 47);
    // Behind one another is not around one another.
    good(s, "laughs not not not not not not not not 1 < 2 and not not not not not not not not 1 < 2;");
    good(s, "loud " + "(1) + ".repeat(20) + "(1);");
    good(s, "loud " + "-1 - ".repeat(20) + "-1;");
    good(s, "loud --------1 - --------1;");
    good(s, "loud ((((((((1)))))))) * ((((((((1))))))));");
    fault(s, "loud ((((((((1)))))))) * (((((((((1)))))))));", 3, 33);
    good(s, "loud (-(-(-(-1)))) + ((((((((1))))))));");
    good(s, "loud -((((((-1))))));");
    fault(s, "loud -(((((((-1)))))));", 3, 13);
    good(s, "loud ((((((((1))))))) - 1);");
    fault(s, "loud ((((((((1)))))))) - (((((((-(", 3, 33);
    same(s, "((((((((7))))))))", "--------7");
  }

  private static void fault4ALawForTheSecondTime() {
    Sentence s = Sentence.of("II.", "4 laughs, loud, dues for the second time (at it).");
    String[] laws = {"laughs 1 < 2;", "loud 1;", "dues 1;"};
    for (String law : laws) {
      String word = law.substring(0, law.indexOf(' '));
      good(s, law);
      fault(s, law + law, 4, law.length());
      fault(s, law + " " + word, 4, law.length() + 1);
      fault(s, law + word + "foo", 1, law.length());
      for (String other : laws) {
        if (other != law) {
          good(s, law + other);
          fault(s, law + other + law, 4, law.length() + other.length());
        }
      }
    }
    good(s, laws[2] + laws[1] + laws[0]);
    good(s, "night; night; out 0; out 0; hire 0; hire 0; seat 0 at 0; seat 0 at 0;");
    SilentHouse house = new SilentHouse();
    s.be("a text by itself", Tape.read(house, laws[1]), 0);
    s.be("each text has its own", Tape.read(house, laws[1]), 1);
    s.be("a fault", Tape.read(house, laws[1] + laws[1]), NONE);
    s.be("nothing of it stays", Tape.read(house, laws[1]), 2);
  }

  private static void fault5ANameOfAnotherClause() {
    Sentence s = Sentence.of("II.", "5 a NAME that isn't of that CLAUSE (at it).");
    for (String name : NAMES) {
      if (!isOf(name, "wit shame row sort power near all")) {
        fault(s, "laughs 1 < " + name + ";", 5, 11);
        fault(s, "laughs not -(" + name + ") < 1;", 5, 13);
      }
      if (!isOf(name, "sort power laughing rounds coughs")) {
        fault(s, "loud " + name + ";", 5, 5);
        fault(s, "laughs wit < 1; loud 1 + " + name + ";", 5, 25);
      }
      if (!isOf(name, "wit shame row bill people often coughed")) {
        fault(s, "dues " + name + ";", 5, 5);
        fault(s, "loud 1; dues (" + name + ");", 5, 14);
      }
      fault(s, "out " + name + ";", 1, 4);
    }
  }

  private static void fault6The25thClause() {
    Sentence s = Sentence.of("II.", "6 the 25th CLAUSE (at its first TOKEN).");
    String[] clauses = {"laughs 1 < 2;", "loud 1;", "dues 1;", "seat 0 at 0;", "out 0;", "hire 0;", "night;"};
    for (String clause : clauses) {
      good(s, "night;".repeat(23) + clause);
      fault(s, "night;".repeat(24) + "  " + clause, 6, 146);
      fault(s, "night;".repeat(24) + clause.substring(0, clause.length() - 1), 6, 144);
      String word = clause.split("[ ;]")[0];
      fault(s, "night;".repeat(24) + word, 6, 144);
      fault(s, "night;".repeat(24) + word + " !", 6, 144);
    }
    fault(s, "night;".repeat(30), 6, 144);
    fault(s, "night;".repeat(50), 6, 144);
  }

  private static void theTextRules() {
    Sentence s = Sentence.of("II.", "THE TEXT (told; at first none) rules.");
    SilentHouse house = Houses.people(2);
    house.line(1, 2);
    s.be("at first none", house.about(5), NONE);
    Tape.read(house, "laughs 1 > 2;");
    Tape.read(house, "loud 50; dues 7;");
    Tape.read(house, "");
    s.be("read, but not told", house.wave(0, 2), 2);
    house.by(0);
    s.be("its law", house.wave(0, 0), 0);
    s.be("without a law of its own", house.wave(0, 2), 0);
    house.by(1);
    s.be("another's law", house.wave(0, 2), 50);
    s.be("without a law of its own", house.wave(0, 0), 3);
    house.night();
    s.be("its dues", house.of(0, 2), 7);
    house.by(2);
    s.be("an empty one", house.wave(0, 2), 2);
    house.night();
    s.be("an empty one", house.of(0, 2), 8);
    house.by(1);
    house.played(0);
    s.be("to be played isn't to rule", house.wave(0, 2), 50);
  }

  /** 0 on seat 0; 1 without a seat, still; 2 on seat 1, still. */
  private static SilentHouse three() {
    SilentHouse house = new SilentHouse();
    for (int person = 0; person < 3; person++) {
      house.person(0, 0, 0);
    }
    house.seat(0, 0);
    house.hire(1, true);
    house.seat(2, 1);
    house.hire(2, true);
    return house;
  }

  private static void oneThatCantBeEndsIt() {
    Sentence s = Sentence.of("II.", "one that can't be ends it: its number among all CLAUSES (from 0); what was done stays.");
    String[] cannot = {"seat 0 at 1;", "seat 0 at 0;", "seat 3 at 5;", "out 1;", "out 3;", "out 5;", "hire 1;", "hire 2;", "hire 3;", "hire 5;"};
    for (String clause : cannot) {
      SilentHouse first = three();
      Tape.read(first, clause + "seat 0 at 9;");
      s.be(clause + " is the first", first.played(0), 0);
      s.be("nothing behind it is done", first.of(0, 0), 0);
      s.be("nothing is done", first.about(6), 4);
      SilentHouse last = three();
      Tape.read(last, "night;".repeat(23) + clause);
      s.be(clause + " is the last of 24", last.played(0), 23);
      s.be("what was done stays", last.about(2), 23);
      s.be("steps of what was done", last.about(6), 27);
      SilentHouse laws = three();
      Tape.read(laws, "loud 1; laughs 1 < 2; night; dues 3;" + clause);
      s.be(clause + " behind laws", laws.played(0), 4);
      s.be("what was done stays", laws.about(2), 1);
    }
    SilentHouse house = three();
    Tape.read(house, "out 0; out 2; night; seat 0 at 3;");
    s.be("a night of nobody", house.played(0), 2);
    s.be("nobody is seated behind it", house.of(0, 0), NONE);
    s.be("the two steps stay", house.undo(), 5);
    s.be("and can be taken back", house.of(2, 0), 1);
  }

  private static void playedByAText() {
    Sentence s = Sentence.of("II.", "PLAYED by a TEXT: its seat, out (no SEAT), hire (STILL) and night clauses, in their order, as by hand");
    SilentHouse house = new SilentHouse();
    house.person(0, 0, 0);
    Houses.law(house, "dues 5; seat 0 at 15; night; hire 0; loud 3; out 0; laughs 1 > 2;");
    s.be("reading and ruling is not playing", house.about(6), 0);
    s.be("all is done", house.played(0), NONE);
    s.be("four steps", house.undo(), 3);
    s.be("out was the latest", house.of(0, 0), 15);
    s.be("still yet", house.of(0, 1), 1);
    s.be("hire", house.undo(), 2);
    s.be("not still", house.of(0, 1), 0);
    s.be("paid yet", house.of(0, 2), 5);
    s.be("night", house.undo(), 1);
    s.be("nothing paid", house.of(0, 2), 0);
    s.be("seat", house.undo(), 0);
    s.be("no seat", house.of(0, 0), NONE);
    s.be("again, as by hand", house.played(0), NONE);
  }
}
