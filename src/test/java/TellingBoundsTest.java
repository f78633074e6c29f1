import java.util.function.Consumer;

/** Promises 1 to 14, the calls that tell: each sentence on both sides of its bounds. */
public final class TellingBoundsTest {
  private static final int NONE = SilentHouse.NONE;
  private static final int LEAST = Integer.MIN_VALUE;
  private static final int MOST = Integer.MAX_VALUE;

  private TellingBoundsTest() {
  }

  public static void main(String[] args) {
    promise1NobodyNoLinesTheImageIsThis();
    promise2APersonTheNumber();
    promise2NoneForOthersOrIfThereAre6();
    promise3ALineItsNumber();
    promise3NoneForOthersOrIfThereAre10();
    promise4XIsSeed();
    promise4FalseForOthers();
    promise5TwentyBytesComeBehindTheTape();
    promise5NoneIfThereWouldBeMoreThan300();
    promise6TheTapeHasItsFirstBytesAlone();
    promise6NoneIfItHasNotSoManyOrNIsBelow0();
    promise7TheTapeIsAText();
    promise7NoneItHasAFaultOrThereAre4();
    promise8OfTheLatestTextThatWasRead();
    promise8NoneForOthersAndAheadOfAny();
    promise9TheText();
    promise9FalseForOthers();
    promise10Seated();
    promise10FalseForOthersTakenOrSoAlready();
    promise11StillOrNot();
    promise11FalseForOthersOrSoAlready();
    promise12ANightItsBill();
    promise12NoneNobodySits();
    promise13PlayedByAText();
    promise13Minus2ForOthers();
    promise14TheLatestStepIsTakenBack();
    promise14NoneThereIsNone();
    Sentence.everyOneOfPromises(1, 14);
    Due.end();
  }

  private static void asNew(Sentence s, String when, SilentHouse house) {
    int[] due = {0, 0, 0, 17, 0, NONE, 0, 0};
    for (int what = 0; what < due.length; what++) {
      s.be(when + " about " + what, house.about(what), due[what]);
    }
    for (int seat = 0; seat < 16; seat++) {
      s.be(when + " nobody on " + seat, house.about(10 + seat), NONE);
    }
    for (int person = 0; person < 6; person++) {
      s.be(when + " nobody of the number " + person, house.of(person, 0), -2);
    }
    for (int line = 0; line < 10; line++) {
      s.be(when + " no line of the number " + line, house.wave(line, 3), NONE);
    }
    s.be(when + " no text to rule", house.by(0), false);
    s.be(when + " no text to play", house.played(0), -2);
    s.be(when + " no line that can be seen", house.seen(0), -2);
    s.be(when + " nobody to play to", house.night(), NONE);
    s.be(when + " nothing is loud", house.all(63), 0);
    s.be(when + " the empty set alone", house.who(NONE), 1);
    s.be(when + " nothing to take back", house.undo(), NONE);
  }

  private static void promise1NobodyNoLinesTheImageIsThis() {
    Sentence s = Sentence.of(1, "Nobody, no LINES; THE IMAGE is this.");
    SilentHouse house = new SilentHouse();
    asNew(s, "at first", house);
    s.be("at first no bytes", house.about(8), 0);
    s.be("at first no fault", house.fault(0), NONE);
    s.be("back of it is the same", house.back(), 0);
    asNew(s, "behind back at once", house);
    house.person(9, 9, 10);
    house.line(1, 9);
    house.seat(0, 15);
    house.hire(0, true);
    house.seed(9999);
    Houses.law(house, "loud 5;");
    house.night();
    house.seen(5);
    SilentHouse other = new SilentHouse();
    asNew(s, "beside another object", other);
    s.be("back to it", house.back(), 0);
    asNew(s, "behind back", house);
    s.be("numbers begin anew, people", house.person(1, 2, 3), 0);
    s.be("not still", house.of(0, 1), 0);
    s.be("nothing paid", house.of(0, 2), 0);
    s.be("numbers begin anew, lines", house.line(2, 3), 0);
    s.be("numbers begin anew, texts", house.text(), 0);
  }

  private static void promise2APersonTheNumber() {
    Sentence s = Sentence.of(2, "A PERSON: the number.");
    int[][] people = {{0, 0, 0}, {9, 9, 10}, {0, 9, 0}, {9, 0, 0}, {0, 0, 10}, {1, 8, 9}};
    SilentHouse house = new SilentHouse();
    for (int p = 0; p < people.length; p++) {
      s.be("the number", house.person(people[p][0], people[p][1], people[p][2]), p);
      s.be("so many", house.about(0), p + 1);
    }
    for (int p = 0; p < people.length; p++) {
      for (int what = 0; what < 3; what++) {
        s.be("wit, shame, cold of " + p, house.of(p, 3 + what), people[p][what]);
      }
      s.be("no seat at first", house.of(p, 0), NONE);
      s.be("not still at first", house.of(p, 1), 0);
      s.be("paid nothing at first", house.of(p, 2), 0);
    }
    s.be("no step", house.about(6), 0);
  }

  private static void promise2NoneForOthersOrIfThereAre6() {
    Sentence s = Sentence.of(2, "NONE for others, or if there are 6.");
    int[][] others = {{-1, 0, 0}, {10, 0, 0}, {0, -1, 0}, {0, 10, 0}, {0, 0, -1}, {0, 0, 11}, {LEAST, 0, 0}, {MOST, 0, 0},
      {0, LEAST, 0}, {0, MOST, 0}, {0, 0, LEAST}, {0, 0, MOST}, {10, 10, 11}};
    for (int[] p : others) {
      String what = "person(" + p[0] + ", " + p[1] + ", " + p[2] + ")";
      s.refuses(what + " of none", Houses::fresh, h -> h.person(p[0], p[1], p[2]), NONE);
      s.refuses(what + " of three", Houses::some, h -> h.person(p[0], p[1], p[2]), NONE);
    }
    Consumer<SilentHouse> five = h -> {
      for (int i = 0; i < 5; i++) {
        h.person(i, i, i);
      }
    };
    SilentHouse house = new SilentHouse();
    five.accept(house);
    s.be("the sixth is taken", house.person(9, 9, 10), 5);
    s.refuses("the seventh", five.andThen(h -> h.person(9, 9, 10)), h -> h.person(0, 0, 0), NONE);
    s.refuses("the seventh of a full house", Houses::full, h -> h.person(1, 1, 1), NONE);
    s.refuses("the seventh, and wrong", Houses::full, h -> h.person(-1, 10, 11), NONE);
  }

  private static void promise3ALineItsNumber() {
    Sentence s = Sentence.of(3, "A LINE: its number.");
    SilentHouse house = new SilentHouse();
    for (int line = 0; line < 10; line++) {
      s.be("its number", house.line(line % 3, 9 - line), line);
      s.be("so many", house.about(1), line + 1);
    }
    for (int line = 0; line < 10; line++) {
      s.be("sort of " + line, house.wave(line, 3), line % 3);
      s.be("power of " + line, house.wave(line, 4), 9 - line);
    }
    s.be("no step", house.about(6), 0);
  }

  private static void promise3NoneForOthersOrIfThereAre10() {
    Sentence s = Sentence.of(3, "NONE for others, or if there are 10.");
    int[][] others = {{-1, 0}, {3, 0}, {0, -1}, {0, 10}, {2, 10}, {LEAST, 0}, {MOST, 0}, {0, LEAST}, {0, MOST}};
    for (int[] l : others) {
      String what = "line(" + l[0] + ", " + l[1] + ")";
      s.refuses(what + " of none", Houses::fresh, h -> h.line(l[0], l[1]), NONE);
      s.refuses(what + " of three", Houses::some, h -> h.line(l[0], l[1]), NONE);
    }
    Consumer<SilentHouse> nine = h -> {
      for (int i = 0; i < 9; i++) {
        h.line(1, i);
      }
    };
    SilentHouse house = new SilentHouse();
    nine.accept(house);
    s.be("the tenth is taken", house.line(2, 9), 9);
    s.refuses("the eleventh", nine.andThen(h -> h.line(2, 9)), h -> h.line(0, 0), NONE);
    s.refuses("the eleventh of a full house", Houses::full, h -> h.line(1, 9), NONE);
    s.refuses("the eleventh, and wrong", Houses::full, h -> h.line(3, -1), NONE);
  }

  private static void promise4XIsSeed() {
    Sentence s = Sentence.of(4, "X is SEED (0 .. 9999) * 3 + 17: true.");
    int[] seeds = {0, 1, 2, 9998, 9999, 5000};
    SilentHouse house = new SilentHouse();
    for (int seed : seeds) {
      s.be("seed " + seed, house.seed(seed), true);
      s.be("X by " + seed, house.about(3), seed * 3 + 17);
    }
    s.be("the same again", house.seed(5000), true);
    s.be("no step", house.about(6), 0);
  }

  private static void promise4FalseForOthers() {
    Sentence s = Sentence.of(4, "False for others.");
    // The last two would be an X in range if the sum were allowed to wrap around.
    int[] others = {-1, -5, 10000, LEAST, MOST, 1431655766, -1431655765};
    for (int seed : others) {
      s.refuses("seed " + seed, Houses::fresh, h -> Call.told(h.seed(seed)), 0);
      s.refuses("seed " + seed, Houses::some, h -> Call.told(h.seed(seed)), 0);
    }
  }

  private static int feedBlanksBut(SilentHouse house, int place, int sign) {
    int[] five = new int[5];
    for (int i = 0; i < 20; i++) {
      five[i / 4] = five[i / 4] << 8 | (i == place ? sign : ' ');
    }
    return house.feed(five[0], five[1], five[2], five[3], five[4]);
  }

  private static void promise5TwentyBytesComeBehindTheTape() {
    Sentence s = Sentence.of(5, "Twenty bytes come behind the tape, the highest of a first: how many it has.");
    int[] none = {0, 1, 9, 31, 33, 127, 128, 160, 138, 255};
    for (int place = 0; place < 20; place++) {
      for (int sign : none) {
        SilentHouse house = new SilentHouse();
        s.be("behind an empty tape", feedBlanksBut(house, place, sign), 20);
        house.text();
        s.be("a byte " + sign + " at " + place, house.fault(1), place);
      }
    }
    SilentHouse house = new SilentHouse();
    for (int i = 1; i <= 15; i++) {
      s.be("behind the others", feedBlanksBut(house, 19, i == 15 ? '!' : ' '), 20 * i);
      s.be("has", house.about(8), 20 * i);
    }
    house.text();
    s.be("the last byte of 300", house.fault(1), 299);
    SilentHouse cut = new SilentHouse();
    feedBlanksBut(cut, 0, '!');
    cut.end(0);
    s.be("behind a tape that was cut", feedBlanksBut(cut, 3, '!'), 20);
    cut.end(7);
    s.be("behind seven", feedBlanksBut(cut, 0, ' '), 27);
    cut.text();
    s.be("the bytes ahead stay", cut.fault(1), 3);
  }

  private static void promise5NoneIfThereWouldBeMoreThan300() {
    Sentence s = Sentence.of(5, "NONE, and none come, if there would be more than 300.");
    int[] tooLong = {281, 282, 299, 300};
    for (int length : tooLong) {
      Consumer<SilentHouse> ahead = h -> {
        Houses.some(h);
        Tape.put(h, "loud 7;" + " ".repeat(length - 7));
      };
      s.refuses("behind " + length, ahead, h -> feedBlanksBut(h, 0, '!'), NONE);
    }
    int[] shortEnough = {0, 1, 260, 279, 280};
    for (int length : shortEnough) {
      SilentHouse house = new SilentHouse();
      Tape.put(house, " ".repeat(length));
      s.be("behind " + length, feedBlanksBut(house, 19, '!'), length + 20);
      house.text();
      s.be("they came", house.fault(1), length + 19);
    }
    s.refuses("behind 300 of a full house", Houses::full, h -> h.feed(MOST, LEAST, -1, 0, 1), NONE);
  }

  private static void promise6TheTapeHasItsFirstBytesAlone() {
    Sentence s = Sentence.of(6, "The tape has its first n bytes alone: n.");
    SilentHouse empty = new SilentHouse();
    s.be("none of none", empty.end(0), 0);
    int[] ends = {0, 1, 19, 20, 39, 40};
    for (int n : ends) {
      SilentHouse house = new SilentHouse();
      Tape.put(house, " ".repeat(40));
      s.be("the first " + n + " of 40", house.end(n), n);
      s.be("has " + n, house.about(8), n);
    }
    SilentHouse full = new SilentHouse();
    Tape.put(full, " ".repeat(300));
    s.be("300 of 300", full.end(300), 300);
    s.be("299 of 300", full.end(299), 299);
    SilentHouse house = new SilentHouse();
    Tape.put(house, "night;!");
    house.end(6);
    s.be("the first stay, the others are gone", house.text(), 0);
    Tape.put(house, "night;night;!");
    house.end(5);
    s.be("a text without its end", house.text(), NONE);
    s.be("of the end at the length", house.fault(1), 5);
  }

  private static void promise6NoneIfItHasNotSoManyOrNIsBelow0() {
    Sentence s = Sentence.of(6, "NONE, and nothing is done, if it has not so many, or n is below 0.");
    int[] forNone = {1, 20, 300, 301, -1, LEAST, MOST};
    for (int n : forNone) {
      s.refuses("end(" + n + ") of none", Houses::fresh, h -> h.end(n), NONE);
    }
    int[] forSeven = {8, 20, 300, -1, -7, LEAST, MOST};
    for (int n : forSeven) {
      s.refuses("end(" + n + ") of seven", Houses::some, h -> h.end(n), NONE);
    }
    int[] forAll = {301, -1, LEAST, MOST};
    for (int n : forAll) {
      s.refuses("end(" + n + ") of 300", Houses::full, h -> h.end(n), NONE);
    }
    SilentHouse house = new SilentHouse();
    feedBlanksBut(house, 0, ' ');
    house.end(7);
    s.be("what was cut is gone", house.end(8), NONE);
    house.text();
    s.be("a tape that was read has none", house.end(1), NONE);
  }

  /** A sum of ones that fills 300 bytes, the last of them its sign ; . */
  private static String longest() {
    return "dues  1" + "+1".repeat(146) + ";";
  }

  private static void promise7TheTapeIsAText() {
    Sentence s = Sentence.of(7, "The tape (empty then) is a TEXT: its number.");
    SilentHouse house = Houses.one();
    s.be("an empty tape is one", house.text(), 0);
    s.be("it has nothing to play", house.played(0), NONE);
    s.be("300 bytes", longest().length(), 300);
    s.be("300 bytes are one", Tape.read(house, longest()), 1);
    s.be("empty then", house.about(8), 0);
    s.be("blanks alone are one", Tape.read(house, " \n".repeat(150)), 2);
    s.be("the last", Tape.read(house, "out 0;"), 3);
    s.be("empty then", house.about(8), 0);
    s.be("so many", house.about(4), 4);
    house.by(1);
    house.night();
    s.be("all of its bytes count", house.of(0, 2), 147);
    s.be("the last is played", house.played(3), NONE);
    s.be("so it is out", house.of(0, 0), NONE);
    s.be("no steps but those", house.about(6), 3);
  }

  private static void promise7NoneItHasAFaultOrThereAre4() {
    Sentence s = Sentence.of(7, "NONE: it has a FAULT; or (the tape stays) there are 4.");
    SilentHouse house = new SilentHouse();
    Houses.some(house);
    s.be("a fault", Tape.read(house, "loud 7"), NONE);
    s.be("the tape is empty behind a fault", house.about(8), 0);
    s.be("no text more", house.about(4), 1);
    s.be("300 bytes with a fault at their end", Tape.read(house, longest().substring(0, 299) + ")"), NONE);
    s.be("at the last byte", house.fault(1), 299);
    s.be("the tape is empty behind a fault", house.about(8), 0);
    s.be("a number is not lost by a fault", Tape.read(house, "loud 7;"), 1);
    for (int text = 2; text < 4; text++) {
      s.be("up to four", house.text(), text);
    }
    s.be("a fifth", Tape.read(house, "loud 7;"), NONE);
    s.be("the tape stays", house.about(8), 7);
    s.be("again", house.text(), NONE);
    s.be("the tape stays", house.about(8), 7);
    s.be("back to fewer texts", house.back(), 1);
    s.be("what stayed is read", house.text(), 1);
    s.be("empty then", house.about(8), 0);
    s.refuses("a fifth of a full house", Houses::full, SilentHouse::text, NONE);
    s.refuses("an empty fifth", h -> {
      Houses.full(h);
      h.end(0);
    }, SilentHouse::text, NONE);
    s.refuses("a fifth with a fault", h -> {
      Houses.full(h);
      Tape.put(h, "foo");
    }, SilentHouse::text, NONE);
  }

  private static void fault(Sentence s, String when, SilentHouse house, int fault, int place) {
    s.be("the fault " + when, house.fault(0), fault);
    s.be("its place " + when, house.fault(1), place);
  }

  private static void promise8OfTheLatestTextThatWasRead() {
    Sentence s = Sentence.of(8, "Of the latest text that was read: 0 its FAULT (0 without), 1 its place (NONE without).");
    SilentHouse house = new SilentHouse();
    house.text();
    fault(s, "of an empty text", house, 0, NONE);
    Tape.read(house, "loud 10000;");
    fault(s, "of a number", house, 2, 5);
    Tape.put(house, "!");
    fault(s, "while another is on the tape", house, 2, 5);
    house.end(0);
    house.by(NONE);
    house.played(0);
    house.image();
    house.back();
    fault(s, "behind other calls", house, 2, 5);
    Tape.read(house, "!");
    fault(s, "at the first byte", house, 1, 0);
    Tape.read(house, "night");
    fault(s, "at the end", house, 1, 5);
    Tape.read(house, "night" + " ".repeat(295));
    fault(s, "at the end of 300", house, 1, 300);
    Tape.read(house, "night;");
    fault(s, "of one without", house, 0, NONE);
    house.text();
    house.text();
    Tape.read(house, "!");
    s.be("four texts", house.about(4), 4);
    fault(s, "of one that wasn't read", house, 0, NONE);
    house.back();
    house.text();
    fault(s, "as soon as it is read", house, 1, 0);
  }

  private static void promise8NoneForOthersAndAheadOfAny() {
    Sentence s = Sentence.of(8, "NONE for others, and ahead of any.");
    SilentHouse house = new SilentHouse();
    int[] whats = {0, 1, 2, -1, LEAST, MOST};
    for (int what : whats) {
      s.be("ahead of any " + what, house.fault(what), NONE);
    }
    Tape.put(house, "!");
    s.be("a tape that wasn't read", house.fault(0), NONE);
    s.be("a tape that wasn't read", house.fault(1), NONE);
    house.text();
    fault(s, "behind it", house, 1, 0);
    int[] others = {2, 3, -1, -2, LEAST, MOST};
    for (int what : others) {
      s.refuses("of a fault " + what, Houses::some, h -> h.fault(what), NONE);
      s.refuses("without " + what, Houses::full, h -> h.fault(what), NONE);
    }
  }

  private static void promise9TheText() {
    Sentence s = Sentence.of(9, "THE TEXT (NONE: none): true.");
    SilentHouse house = Houses.one();
    s.be("none of none", house.by(NONE), true);
    s.be("none", house.about(5), NONE);
    for (int text = 0; text < 4; text++) {
      Tape.read(house, "loud " + (10 + text) + ";");
      s.be("reading lets none rule", house.about(5), text - 1);
      s.be("the latest", house.by(text), true);
      s.be("it is", house.about(5), text);
      s.be("it rules", house.wave(0, 2), 10 + text);
    }
    for (int text = 0; text < 4; text++) {
      s.be("any", house.by(text), true);
      s.be("the same again", house.by(text), true);
      s.be("it rules", house.wave(0, 2), 10 + text);
    }
    s.be("none", house.by(NONE), true);
    s.be("none again", house.by(NONE), true);
    s.be("none rules", house.wave(0, 2), 0);
    s.be("no step", house.about(6), 1);
  }

  private static void promise9FalseForOthers() {
    Sentence s = Sentence.of(9, "False for others.");
    int[] ofNone = {0, 1, 3, 4, -2, LEAST, MOST};
    for (int text : ofNone) {
      s.refuses("by(" + text + ") of none", Houses::fresh, h -> Call.told(h.by(text)), 0);
    }
    int[] ofOne = {1, 3, 4, -2, LEAST, MOST};
    for (int text : ofOne) {
      s.refuses("by(" + text + ") of one", Houses::some, h -> Call.told(h.by(text)), 0);
    }
    int[] ofFour = {4, 5, -2, LEAST, MOST};
    for (int text : ofFour) {
      s.refuses("by(" + text + ") of four", Houses::full, h -> Call.told(h.by(text)), 0);
    }
    SilentHouse house = new SilentHouse();
    Tape.read(house, "loud 1;");
    s.be("there", house.by(0), true);
    house.back();
    s.be("there no more", house.by(0), false);
    Tape.read(house, "foo");
    s.be("a text with a fault is none", house.by(0), false);
  }

  private static void promise10Seated() {
    Sentence s = Sentence.of(10, "SEATED (seat NONE: none): true.");
    SilentHouse house = new SilentHouse();
    house.person(0, 0, 0);
    for (int seat = 0; seat < 16; seat++) {
      s.be("on " + seat, house.seat(0, seat), true);
      s.be("is on " + seat, house.of(0, 0), seat);
      s.be("is there", house.about(10 + seat), 0);
      s.be("the one ahead is free", seat == 0 ? NONE : house.about(9 + seat), NONE);
      s.be("a step", house.about(6), seat + 1);
    }
    s.be("none", house.seat(0, NONE), true);
    s.be("has none", house.of(0, 0), NONE);
    s.be("nobody is there", house.about(25), NONE);
    s.be("on the last again", house.seat(0, 15), true);
    for (int person = 1; person < 6; person++) {
      house.person(0, 0, 0);
      s.be("all six", house.seat(person, 15 - person), true);
    }
    house.hire(5, true);
    s.be("who is still, too", house.seat(5, 0), true);
    s.be("a seat that came free", house.seat(4, 10), true);
  }

  private static void promise10FalseForOthersTakenOrSoAlready() {
    Sentence s = Sentence.of(10, "False for others, a SEAT that is taken, and if it is so already.");
    s.refuses("nobody is told", Houses::fresh, h -> Call.told(h.seat(0, 0)), 0);
    s.refuses("nobody is told, no seat", Houses::fresh, h -> Call.told(h.seat(0, NONE)), 0);
    int[] people = {3, 5, 6, -1, LEAST, MOST};
    for (int person : people) {
      s.refuses("a person " + person, Houses::some, h -> Call.told(h.seat(person, 5)), 0);
      s.refuses("a person " + person + " and none", Houses::some, h -> Call.told(h.seat(person, NONE)), 0);
    }
    s.refuses("a seventh", Houses::full, h -> Call.told(h.seat(6, 1)), 0);
    int[] seats = {16, 17, -2, -3, LEAST, MOST};
    for (int seat : seats) {
      s.refuses("a seat " + seat + ", who sits", Houses::some, h -> Call.told(h.seat(0, seat)), 0);
      s.refuses("a seat " + seat + ", who doesn't", Houses::some, h -> Call.told(h.seat(2, seat)), 0);
    }
    s.refuses("taken, who sits", Houses::some, h -> Call.told(h.seat(0, 1)), 0);
    s.refuses("taken, who doesn't sit", Houses::some, h -> Call.told(h.seat(2, 0)), 0);
    s.refuses("there already", Houses::some, h -> Call.told(h.seat(1, 1)), 0);
    s.refuses("out already", Houses::some, h -> Call.told(h.seat(2, NONE)), 0);
    for (int person = 0; person < 6; person++) {
      int there = person;
      s.refuses("there already, of six", Houses::full, h -> Call.told(h.seat(there, 15 - there)), 0);
      s.refuses("taken, of six", Houses::full, h -> Call.told(h.seat(there, 15 - (there + 1) % 6)), 0);
    }
  }

  private static void promise11StillOrNot() {
    Sentence s = Sentence.of(11, "STILL, or not: true.");
    SilentHouse house = new SilentHouse();
    for (int person = 0; person < 6; person++) {
      house.person(0, 0, 0);
      s.be("still, without a seat", house.hire(person, true), true);
      s.be("is still", house.of(person, 1), 1);
      s.be("a step", house.about(6), person + 1);
    }
    for (int person = 0; person < 6; person++) {
      s.be("not any more", house.hire(person, false), true);
      s.be("isn't", house.of(person, 1), 0);
      s.be("a step", house.about(6), person + 7);
    }
    house.line(1, 1);
    house.seat(5, 0);
    s.be("laughs", house.wave(0, 0), 32);
    s.be("still, on a seat", house.hire(5, true), true);
    s.be("doesn't laugh", house.wave(0, 0), 0);
    house.seat(5, NONE);
    house.seat(5, 3);
    s.be("stays so on another seat", house.of(5, 1), 1);
  }

  private static void promise11FalseForOthersOrSoAlready() {
    Sentence s = Sentence.of(11, "False for others, and if it is so already.");
    s.refuses("nobody is told", Houses::fresh, h -> Call.told(h.hire(0, true)), 0);
    s.refuses("nobody is told", Houses::fresh, h -> Call.told(h.hire(0, false)), 0);
    // 32 and 33 would be 0 and 1 if a shift took them.
    int[] people = {3, 5, 6, 32, 33, -1, -32, LEAST, MOST};
    for (int person : people) {
      s.refuses("a person " + person, Houses::some, h -> Call.told(h.hire(person, true)), 0);
      s.refuses("a person " + person, Houses::some, h -> Call.told(h.hire(person, false)), 0);
    }
    s.refuses("a seventh", Houses::full, h -> Call.told(h.hire(6, true)), 0);
    s.refuses("still already", Houses::some, h -> Call.told(h.hire(1, true)), 0);
    s.refuses("not still as it is", Houses::some, h -> Call.told(h.hire(0, false)), 0);
    s.refuses("not still as it is, without a seat", Houses::some, h -> Call.told(h.hire(2, false)), 0);
    for (int person = 0; person < 6; person++) {
      int one = person;
      s.refuses("as it is, of six", Houses::full, h -> Call.told(h.hire(one, h.of(one, 1) == 1)), 0);
    }
  }

  private static void promise12ANightItsBill() {
    Sentence s = Sentence.of(12, "A NIGHT: its BILL.");
    SilentHouse one = new SilentHouse();
    one.person(0, 0, 10);
    one.seat(0, 15);
    s.be("no lines", one.night(), 0);
    s.be("counted", one.about(2), 1);
    s.be("a step", one.about(6), 2);
    s.be("no draws", one.about(3), 17);
    one.line(0, 0);
    s.be("one who coughs", one.night(), 1);
    s.be("one draw", one.about(3), 3920);
    one.hire(0, true);
    s.be("one who is still, and coughs", one.night(), 1);
    s.be("counted", one.about(2), 3);
    SilentHouse most = Houses.tenJokes(6);
    s.be("six laugh at ten lines", most.night(), 60);
    Houses.law(most, "loud 99;");
    s.be("the highest bill", most.night(), 990);
    Houses.law(most, "loud 0;");
    s.be("the lowest", most.night(), 0);
  }

  private static void promise12NoneNobodySits() {
    Sentence s = Sentence.of(12, "NONE: nobody sits.");
    s.refuses("nobody is told", Houses::fresh, SilentHouse::night, NONE);
    s.refuses("lines before nobody", h -> h.line(1, 9), SilentHouse::night, NONE);
    Consumer<SilentHouse> told = h -> {
      for (int i = 0; i < 6; i++) {
        h.person(i, i, 10);
        h.line(1, 9);
      }
      h.hire(0, true);
    };
    s.refuses("nobody on a seat", told, SilentHouse::night, NONE);
    s.refuses("all are out", h -> {
      Houses.full(h);
      for (int person = 0; person < 6; person++) {
        h.seat(person, NONE);
      }
    }, SilentHouse::night, NONE);
    SilentHouse house = new SilentHouse();
    told.accept(house);
    house.seat(5, 0);
    s.be("one is enough", house.night() >= 0, true);
    house.undo();
    house.undo();
    s.be("nobody any more", house.night(), NONE);
  }

  private static void promise13PlayedByAText() {
    Sentence s = Sentence.of(13, "PLAYED by a TEXT: NONE: all is done; else the number of the CLAUSE that can't be.");
    SilentHouse house = new SilentHouse();
    house.person(0, 0, 0);
    Tape.read(house, "");
    s.be("nothing to do", house.played(0), NONE);
    Tape.read(house, "laughs 1 < 2; loud 1; dues 1;");
    s.be("laws alone", house.played(1), NONE);
    s.be("no step", house.about(6), 0);
    Tape.read(house, "seat 0 at 15; " + "night;".repeat(23));
    s.be("24 clauses", house.played(2), NONE);
    s.be("24 steps", house.about(6), 24);
    s.be("the first can't be", house.played(2), 0);
    s.be("nothing was done", house.about(6), 24);
    Tape.read(house, "out 0; loud 1; seat 0 at 3; hire 0;" + "night;".repeat(19) + "hire 0;");
    s.be("the last of 24 can't be", house.played(3), 23);
    s.be("what was done stays", house.of(0, 0), 3);
    s.be("what was done stays", house.about(2), 42);
    s.be("no more than thirty steps", house.about(6), 30);
  }

  private static void promise13Minus2ForOthers() {
    Sentence s = Sentence.of(13, "-2 for others.");
    int[] ofNone = {0, 1, 3, 4, -1, -2, LEAST, MOST};
    for (int text : ofNone) {
      s.refuses("played(" + text + ") of none", Houses::fresh, h -> h.played(text), -2);
    }
    int[] ofOne = {1, 2, 3, 4, -1, LEAST, MOST};
    for (int text : ofOne) {
      s.refuses("played(" + text + ") of one", Houses::some, h -> h.played(text), -2);
    }
    int[] ofFour = {4, 5, -1, LEAST, MOST};
    for (int text : ofFour) {
      s.refuses("played(" + text + ") of four", Houses::full, h -> h.played(text), -2);
    }
    SilentHouse house = new SilentHouse();
    Tape.read(house, "");
    s.be("there", house.played(0), NONE);
    house.back();
    s.be("there no more", house.played(0), -2);
    SilentHouse full = new SilentHouse();
    Houses.full(full);
    s.be("the last of four", full.played(3) >= NONE, true);
  }

  private static void promise14TheLatestStepIsTakenBack() {
    Sentence s = Sentence.of(14, "The latest STEP is taken back: how many can be yet.");
    SilentHouse house = new SilentHouse();
    house.person(0, 0, 0);
    house.seat(0, 7);
    s.be("the only one", house.undo(), 0);
    s.be("as ahead of it", house.of(0, 0), NONE);
    for (int i = 0; i < 30; i++) {
      house.seat(0, i % 16);
    }
    s.be("of thirty", house.undo(), 29);
    s.be("as ahead of the latest", house.of(0, 0), 28 % 16);
    house.seat(0, NONE);
    s.be("thirty again", house.about(6), 30);
    house.hire(0, true);
    s.be("of 31", house.undo(), 29);
    s.be("as ahead of the latest", house.of(0, 1), 0);
    s.be("no seat yet", house.of(0, 0), NONE);
    s.be("the next", house.undo(), 28);
    s.be("as ahead of it", house.of(0, 0), 28 % 16);
  }

  private static void promise14NoneThereIsNone() {
    Sentence s = Sentence.of(14, "NONE: there is none.");
    s.refuses("of a new object", Houses::fresh, SilentHouse::undo, NONE);
    s.refuses("telling is no step", h -> {
      h.person(1, 1, 1);
      h.line(1, 1);
      h.seed(7);
      Houses.law(h, "loud 1;");
      h.seen(1);
      h.image();
    }, SilentHouse::undo, NONE);
    s.refuses("all was taken back", h -> {
      Houses.some(h);
      for (int i = 0; i < 5; i++) {
        h.undo();
      }
    }, SilentHouse::undo, NONE);
    s.refuses("all of thirty were", h -> {
      Houses.full(h);
      for (int i = 0; i < 30; i++) {
        h.undo();
      }
    }, SilentHouse::undo, NONE);
    SilentHouse house = new SilentHouse();
    Houses.some(house);
    for (int left = 4; left >= 0; left--) {
      s.be("the last is one yet", house.undo(), left);
    }
    s.be("then none", house.undo(), NONE);
    s.be("and none again", house.undo(), NONE);
    house.back();
    s.be("the image has steps", house.undo(), 2);
  }
}
