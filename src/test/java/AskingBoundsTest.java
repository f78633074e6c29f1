import java.util.function.Consumer;

/** Promises 15 to 27, the calls that ask, and seen, image and back: each sentence on both sides of its bounds. */
public final class AskingBoundsTest {
  private static final int NONE = SilentHouse.NONE;
  private static final int LEAST = Integer.MIN_VALUE;
  private static final int MOST = Integer.MAX_VALUE;

  private AskingBoundsTest() {
  }

  public static void main(String[] args) {
    promise15OfAPerson();
    promise15Minus2ForOthers();
    promise16OfALine();
    promise16NoneForOthers();
    promise17AllOfASet();
    promise17NoneForOthers();
    promise18Caused();
    promise18Minus1000();
    promise19Fair();
    promise19Minus1000000();
    promise20Quietest();
    promise20Minus2ForOthers();
    promise21CutToABill();
    promise21NoneForOthers();
    promise22StilledToABill();
    promise22NoneNoneAndForOthers();
    promise23Seen();
    promise23Minus2ForOthersOrNotSoManyLines();
    promise24Who();
    promise24NoneIfThereIsNoneSuch();
    promise25TheImage();
    promise26Back();
    promise27About();
    promise27Minus2ForOthers();
    askingLeavesAllAsItWas();
    Sentence.everyOneOfPromises(15, 27);
    Due.end();
  }

  private static void promise15OfAPerson() {
    Sentence s = Sentence.of(15, "Of a PERSON: 0 SEAT (NONE), 1 whether STILL (1, 0), 2 PAID, 3 WIT, 4 SHAME, 5 COLD.");
    SilentHouse house = new SilentHouse();
    for (int person = 0; person < 6; person++) {
      house.person(person, 9 - person, 10 - person);
      int[] due = {NONE, 0, 0, person, 9 - person, 10 - person};
      for (int what = 0; what < 6; what++) {
        s.be("the latest, " + what, house.of(person, what), due[what]);
      }
    }
    house.seat(5, 15);
    house.seat(0, 0);
    house.hire(5, true);
    Houses.law(house, "dues 7;");
    house.night();
    int[] last = {15, 1, 7, 5, 4, 5};
    int[] first = {0, 0, 7, 0, 9, 10};
    for (int what = 0; what < 6; what++) {
      s.be("the last " + what, house.of(5, what), last[what]);
      s.be("the first " + what, house.of(0, what), first[what]);
    }
    s.be("paid nothing, who had no seat", house.of(3, 2), 0);
  }

  private static void promise15Minus2ForOthers() {
    Sentence s = Sentence.of(15, "-2 for others.");
    int[] whats = {-1, 6, 7, LEAST, MOST};
    for (int what : whats) {
      s.refuses("of(0, " + what + ")", Houses::some, h -> h.of(0, what), -2);
      s.refuses("of(5, " + what + ")", Houses::full, h -> h.of(5, what), -2);
    }
    int[] people = {3, 5, 6, -1, LEAST, MOST};
    for (int person : people) {
      for (int what = -1; what <= 6; what++) {
        int asked = what;
        SilentHouse house = new SilentHouse();
        Houses.some(house);
        s.be("of(" + person + ", " + asked + ")", house.of(person, asked), -2);
      }
      s.refuses("of(" + person + ", 0)", Houses::some, h -> h.of(person, 0), -2);
    }
    s.refuses("nobody is told", Houses::fresh, h -> h.of(0, 0), -2);
    s.refuses("a seventh", Houses::full, h -> h.of(6, 0), -2);
  }

  private static void promise16OfALine() {
    Sentence s = Sentence.of(16,
        "Of a LINE before all who sit, without COUGHS: 0 who laughs (bits), 1 ROUNDS, 2 LOUD, 3 SORT, 4 POWER.");
    SilentHouse house = new SilentHouse();
    for (int line = 0; line < 10; line++) {
      house.line(line % 3, line);
      int[] due = {0, 0, 0, line % 3, line};
      for (int what = 0; what < 5; what++) {
        s.be("the latest before nobody, " + what, house.wave(line, what), due[what]);
      }
    }
    for (int person = 0; person < 6; person++) {
      house.person(0, person, 10);
    }
    s.be("nobody sits yet", house.wave(7, 0), 0);
    for (int person = 0; person < 6; person++) {
      house.seat(person, person);
    }
    int[] first = {0, 0, 0, 0, 0};
    int[] fourth = {15, 1, 4, 1, 4};
    int[] seventh = {63, 1, 6, 1, 7};
    int[] last = {0, 0, 0, 0, 9};
    for (int what = 0; what < 5; what++) {
      s.be("the first " + what, house.wave(0, what), first[what]);
      s.be("of power 4, " + what, house.wave(4, what), fourth[what]);
      s.be("before all, " + what, house.wave(7, what), seventh[what]);
      s.be("the last " + what, house.wave(9, what), last[what]);
    }
    house.seat(5, NONE);
    s.be("who doesn't sit doesn't laugh", house.wave(7, 0), 31);
  }

  private static void promise16NoneForOthers() {
    Sentence s = Sentence.of(16, "NONE for others.");
    int[] whats = {-1, 5, 6, LEAST, MOST};
    for (int what : whats) {
      s.refuses("wave(0, " + what + ")", Houses::some, h -> h.wave(0, what), NONE);
      s.refuses("wave(9, " + what + ")", Houses::full, h -> h.wave(9, what), NONE);
    }
    int[] lines = {3, 9, 10, -1, LEAST, MOST};
    for (int line : lines) {
      for (int what = -1; what <= 5; what++) {
        SilentHouse house = new SilentHouse();
        Houses.some(house);
        s.be("wave(" + line + ", " + what + ")", house.wave(line, what), NONE);
      }
      s.refuses("wave(" + line + ", 0)", Houses::some, h -> h.wave(line, 0), NONE);
    }
    s.refuses("no line is told", Houses::fresh, h -> h.wave(0, 3), NONE);
    s.refuses("an eleventh", Houses::full, h -> h.wave(10, 3), NONE);
  }

  private static void promise17AllOfASet() {
    Sentence s = Sentence.of(17, "ALL of a set of PEOPLE (0 .. 63; who doesn't sit isn't asked).");
    SilentHouse empty = new SilentHouse();
    s.be("none of nobody", empty.all(0), 0);
    s.be("all of nobody", empty.all(63), 0);
    SilentHouse house = Houses.tenJokes(6);
    for (int set = 0; set < 64; set++) {
      s.be("the set " + set, house.all(set), 10 * Integer.bitCount(set));
    }
    house.seat(3, NONE);
    for (int set = 0; set < 64; set++) {
      s.be("the set " + set + " without 3", house.all(set), 10 * Integer.bitCount(set & ~8));
    }
    SilentHouse three = Houses.tenJokes(3);
    s.be("who isn't told isn't asked", three.all(63), 30);
    s.be("none of those who sit", three.all(56), 0);
    Houses.law(three, "loud 200;");
    s.be("990 at most", three.all(63), 990);
    s.be("of nobody, too", three.all(0), 990);
  }

  private static void promise17NoneForOthers() {
    Sentence s = Sentence.of(17, "NONE for others.");
    int[] others = {-1, -64, 64, 65, 127, LEAST, MOST};
    for (int set : others) {
      s.refuses("all(" + set + ") of a new one", Houses::fresh, h -> h.all(set), NONE);
      s.refuses("all(" + set + ") of three", Houses::some, h -> h.all(set), NONE);
      s.refuses("all(" + set + ") of six", Houses::full, h -> h.all(set), NONE);
    }
  }

  private static void promise18Caused() {
    Sentence s = Sentence.of(18, "CAUSED.");
    SilentHouse house = Houses.tenJokes(6);
    s.be("the first of six", house.caused(0), 10);
    s.be("the last of six", house.caused(5), 10);
    Houses.law(house, "laughs wit = 0 or near > 0 and wit < 5; loud laughing * 20;");
    // 0 1 2 3 in a row, 4 is near 0: five laugh, 99 each; without 0 nobody; without 4 four: 80 each.
    s.be("all there can be", house.caused(0), 990);
    s.be("the end of the wave", house.caused(4), 190);
    s.be("nothing", house.caused(5), 0);
    Houses.law(house, "laughs wit = 0; loud 99 - laughing * 99;");
    s.be("less than nothing", house.caused(0), -990);
    house.hire(0, true);
    s.be("who is still causes nothing", house.caused(0), 0);
    SilentHouse noLines = Houses.people(1);
    s.be("no lines", noLines.caused(0), 0);
  }

  private static void promise18Minus1000() {
    Sentence s = Sentence.of(18, "-1000 if the PERSON doesn't sit, and for others.");
    s.refuses("doesn't sit", Houses::some, h -> h.caused(2), -1000);
    int[] others = {3, 5, 6, 32, -1, LEAST, MOST};
    for (int person : others) {
      s.refuses("a person " + person, Houses::some, h -> h.caused(person), -1000);
    }
    s.refuses("nobody is told", Houses::fresh, h -> h.caused(0), -1000);
    s.refuses("a seventh", Houses::full, h -> h.caused(6), -1000);
    SilentHouse house = Houses.tenJokes(2);
    s.be("sits", house.caused(1), 10);
    house.seat(1, NONE);
    s.be("is out", house.caused(1), -1000);
    house.undo();
    s.be("sits again", house.caused(1), 10);
  }

  private static void fair(Sentence s, String what, SilentHouse house, int person, int upper, int lower) {
    s.be(what + ", upper", house.fair(person, 0), upper);
    s.be(what + ", lower", house.fair(person, 1), lower);
  }

  private static void promise19Fair() {
    Sentence s = Sentence.of(19, "FAIR: the upper (0), the lower number (1).");
    SilentHouse house = Houses.tenJokes(6);
    fair(s, "the first of six", house, 0, 10, 1);
    fair(s, "the last of six", house, 5, 10, 1);
    house.hire(5, true);
    fair(s, "nothing is 0 by 1", house, 5, 0, 1);
    fair(s, "one of one", Houses.tenJokes(1), 0, 10, 1);
    fair(s, "no lines", Houses.people(1), 0, 0, 1);
  }

  private static void promise19Minus1000000() {
    Sentence s = Sentence.of(19, "-1000000 if the PERSON doesn't sit, and for others.");
    for (int what = -1; what <= 2; what++) {
      int asked = what;
      s.refuses("doesn't sit, " + what, Houses::some, h -> h.fair(2, asked), -1000000);
      s.refuses("nobody is told, " + what, Houses::fresh, h -> h.fair(0, asked), -1000000);
      s.refuses("a seventh, " + what, Houses::full, h -> h.fair(6, asked), -1000000);
    }
    int[] people = {3, 5, 6, 32, -1, LEAST, MOST};
    for (int person : people) {
      s.refuses("a person " + person, Houses::some, h -> h.fair(person, 0), -1000000);
      s.refuses("a person " + person, Houses::some, h -> h.fair(person, 1), -1000000);
    }
    int[] whats = {-1, 2, 3, LEAST, MOST};
    for (int what : whats) {
      s.refuses("what " + what, Houses::some, h -> h.fair(0, what), -1000000);
      s.refuses("what " + what, Houses::full, h -> h.fair(5, what), -1000000);
    }
  }

  private static void promise20Quietest() {
    Sentence s = Sentence.of(20, "QUIETEST: ALL then (seat NONE); who is on a SEAT (NONE: nobody).");
    SilentHouse nobody = new SilentHouse();
    nobody.line(1, 9);
    Houses.law(nobody, "loud 8;");
    s.be("ALL of nobody", nobody.quietest(NONE), 8);
    for (int seat = 0; seat < 16; seat++) {
      s.be("nobody on " + seat, nobody.quietest(seat), NONE);
    }
    SilentHouse one = new SilentHouse();
    one.person(0, 0, 0);
    one.line(1, 9);
    for (int seat = 0; seat < 16; seat++) {
      one.seat(0, seat);
      for (int asked = 0; asked < 16; asked++) {
        s.be("one on " + seat, one.quietest(asked), asked == seat ? 0 : NONE);
      }
    }
    s.be("ALL of one", one.quietest(NONE), 1);
    SilentHouse six = new SilentHouse();
    for (int person = 0; person < 6; person++) {
      six.person(0, person, 10);
      six.seat(person, 15 - 3 * person);
    }
    s.be("no lines", six.quietest(NONE), 0);
    for (int seat = 0; seat < 16; seat++) {
      s.be("six on every third, " + seat, six.quietest(seat), seat % 3 == 0 ? seat / 3 : NONE);
    }
    six.line(1, 5);
    Houses.law(six, "laughs power > shame + row * 2;");
    // Rows 0 0 1 2 3 3: nobody laughs on row 3, shame 0 on row 2, 0 .. 2 on row 1, 0 .. 4 on row 0.
    // So one of two on row 0 laughs; if it is 0, the others must be 5, 3 .. , 1 .. in their order.
    s.be("by rows", six.quietest(NONE), 1);
    int[] due = {0, 5, 3, 1, 2, 4};
    for (int i = 0; i < 6; i++) {
      s.be("by rows, on " + 3 * i, six.quietest(3 * i), due[i]);
    }
  }

  private static void promise20Minus2ForOthers() {
    Sentence s = Sentence.of(20, "-2 for others.");
    int[] others = {-2, -3, 16, 17, LEAST, MOST};
    for (int seat : others) {
      s.refuses("quietest(" + seat + ") of a new one", Houses::fresh, h -> h.quietest(seat), -2);
      s.refuses("quietest(" + seat + ") of three", Houses::some, h -> h.quietest(seat), -2);
      s.refuses("quietest(" + seat + ") of six", Houses::full, h -> h.quietest(seat), -2);
    }
  }

  private static void promise21CutToABill() {
    Sentence s = Sentence.of(21, "CUT to a BILL (0 .. 990): LINES (bits).");
    SilentHouse empty = new SilentHouse();
    s.be("no lines, lowest", empty.cut(0), 0);
    s.be("no lines, highest", empty.cut(990), 0);
    SilentHouse house = Houses.tenJokes(1);
    Houses.law(house, "loud 99;");
    s.be("the highest bill", house.cut(990), 0);
    s.be("one below what it is", house.cut(989), 1);
    s.be("just one less", house.cut(891), 1);
    s.be("two", house.cut(890), 3);
    s.be("one is left", house.cut(99), 511);
    s.be("none is left", house.cut(98), 1023);
    s.be("the lowest bill", house.cut(0), 1023);
  }

  private static void promise21NoneForOthers() {
    Sentence s = Sentence.of(21, "NONE for others.");
    int[] others = {-1, -990, 991, 992, LEAST, MOST};
    for (int bill : others) {
      s.refuses("cut(" + bill + ") of a new one", Houses::fresh, h -> h.cut(bill), NONE);
      s.refuses("cut(" + bill + ") of some", Houses::some, h -> h.cut(bill), NONE);
      s.refuses("cut(" + bill + ") of a full house", Houses::full, h -> h.cut(bill), NONE);
    }
  }

  private static void promise22StilledToABill() {
    Sentence s = Sentence.of(22, "STILLED to a BILL (0 .. 990): PEOPLE (bits).");
    SilentHouse empty = new SilentHouse();
    s.be("nobody, lowest", empty.stilled(0), 0);
    s.be("nobody, highest", empty.stilled(990), 0);
    SilentHouse house = Houses.tenJokes(6);
    int[] bills = {60, 59, 50, 49, 40, 39, 30, 29, 20, 19, 10, 9, 0, 990};
    int[] due = {0, 1, 1, 3, 3, 7, 7, 15, 15, 31, 31, 63, 63, 0};
    for (int i = 0; i < bills.length; i++) {
      s.be("to " + bills[i], house.stilled(bills[i]), due[i]);
    }
    Houses.law(house, "loud 99;");
    s.be("the highest bill", house.stilled(990), 0);
  }

  private static void promise22NoneNoneAndForOthers() {
    Sentence s = Sentence.of(22, "NONE: none, and for others.");
    int[] others = {-1, -990, 991, 992, LEAST, MOST};
    for (int bill : others) {
      s.refuses("stilled(" + bill + ") of a new one", Houses::fresh, h -> h.stilled(bill), NONE);
      s.refuses("stilled(" + bill + ") of some", Houses::some, h -> h.stilled(bill), NONE);
      s.refuses("stilled(" + bill + ") of a full house", Houses::full, h -> h.stilled(bill), NONE);
    }
    Consumer<SilentHouse> never = h -> {
      Houses.full(h);
      h.back();
      h.seat(4, 0);
      h.seat(5, 4);
      Houses.law(h, "loud 20 + laughing;");
    };
    SilentHouse house = new SilentHouse();
    never.accept(house);
    s.be("all of them do", house.stilled(200), 48);
    s.refuses("not even all do", never, h -> h.stilled(199), NONE);
    SilentHouse nobody = new SilentHouse();
    nobody.line(0, 0);
    Houses.law(nobody, "loud 1;");
    s.be("nobody to be still, enough", nobody.stilled(1), 0);
    s.be("nobody to be still, not enough", nobody.stilled(0), NONE);
  }

  private static void promise23Seen() {
    Sentence s = Sentence.of(23, "SEEN: LOUD of the next LINE (0 .. 99; NONE: nothing is SEEN any more): how many LINES.");
    SilentHouse house = Houses.tenJokes(1);
    s.be("nothing of nothing", house.seen(NONE), 0);
    for (int line = 0; line < 10; line++) {
      s.be("how many", house.seen(line % 2 == 0 ? 0 : 99), line + 1);
      s.be("about", house.about(7), line + 1);
    }
    s.be("nothing any more", house.seen(NONE), 0);
    s.be("about", house.about(7), 0);
    s.be("the next is the first again", house.seen(1), 1);
    s.be("and is line 0", house.who(NONE), 1);
    s.be("nothing any more", house.seen(NONE), 0);
    s.be("and again", house.seen(NONE), 0);
    s.be("no step", house.about(6), 1);
    SilentHouse new1 = new SilentHouse();
    s.be("nothing without lines", new1.seen(NONE), 0);
  }

  private static void promise23Minus2ForOthersOrNotSoManyLines() {
    Sentence s = Sentence.of(23, "-2 for others, or if there are not so many LINES.");
    int[] others = {-2, -3, 100, 101, LEAST, MOST};
    for (int loud : others) {
      s.refuses("seen(" + loud + ") of a new one", Houses::fresh, h -> h.seen(loud), -2);
      s.refuses("seen(" + loud + ") of some", Houses::some, h -> h.seen(loud), -2);
      s.refuses("seen(" + loud + ") of a full house", Houses::full, h -> h.seen(loud), -2);
    }
    s.refuses("no lines", Houses::fresh, h -> h.seen(0), -2);
    s.refuses("three of three", h -> {
      Houses.some(h);
      h.seen(0);
      h.seen(99);
    }, h -> h.seen(4), -2);
    s.refuses("ten of ten", Houses::full, h -> h.seen(0), -2);
    SilentHouse house = new SilentHouse();
    house.line(0, 0);
    s.be("the first of one", house.seen(0), 1);
    s.be("a second of one", house.seen(0), -2);
    house.line(0, 0);
    s.be("a second of two", house.seen(0), 2);
    s.be("a third of two", house.seen(0), -2);
    house.back();
    s.be("of none any more", house.seen(0), -2);
    s.be("none seen", house.about(7), 0);
  }

  private static void promise24Who() {
    Sentence s = Sentence.of(24, "WHO: how many sets (i NONE), the i-th.");
    SilentHouse nobody = new SilentHouse();
    s.be("nobody: the empty set", nobody.who(NONE), 1);
    s.be("which is 0", nobody.who(0), 0);
    SilentHouse house = Houses.tenJokes(6);
    s.be("nothing seen: every set", house.who(NONE), 64);
    for (int i = 0; i < 64; i++) {
      s.be("the " + i, house.who(i), i);
    }
    for (int line = 0; line < 10; line++) {
      house.seen(1);
    }
    s.be("ten lines, one of six", house.who(NONE), 6);
    for (int i = 0; i < 6; i++) {
      s.be("the " + i + " of six", house.who(i), 1 << i);
    }
    house.seat(2, NONE);
    s.be("of those who sit", house.who(NONE), 5);
    s.be("by number", house.who(2), 8);
  }

  private static void promise24NoneIfThereIsNoneSuch() {
    Sentence s = Sentence.of(24, "NONE if there is none such, and for others.");
    int[] others = {-2, -3, 64, 65, LEAST, MOST};
    for (int i : others) {
      s.refuses("who(" + i + ") of a new one", Houses::fresh, h -> h.who(i), NONE);
      s.refuses("who(" + i + ") of some", Houses::some, h -> h.who(i), NONE);
      s.refuses("who(" + i + ") of a full house", Houses::full, h -> h.who(i), NONE);
    }
    s.refuses("the second of one", Houses::fresh, h -> h.who(1), NONE);
    SilentHouse house = Houses.tenJokes(6);
    s.be("the last of 64", house.who(63), 63);
    s.be("one more", house.who(64), NONE);
    house.seen(6);
    s.be("all of them", house.who(NONE), 1);
    s.be("the last of one", house.who(0), 63);
    s.be("one more", house.who(1), NONE);
    house.seen(5);
    s.be("no set", house.who(NONE), 0);
    s.be("not even a first", house.who(0), NONE);
  }

  private static void promise25TheImage() {
    Sentence s = Sentence.of(25, "THE IMAGE is as all is now: NIGHTS.");
    SilentHouse house = new SilentHouse();
    s.be("of a new one", house.image(), 0);
    house.person(1, 1, 1);
    house.seat(0, 3);
    s.be("no nights yet", house.image(), 0);
    for (int night = 1; night <= 40; night++) {
      house.night();
      s.be("nights", house.image(), night);
    }
    s.be("it stays as it was", house.about(2), 40);
    house.seat(0, NONE);
    s.be("a newer one", house.image(), 40);
    house.seat(0, 4);
    house.back();
    s.be("the newest counts", house.of(0, 0), NONE);
    house.undo();
    house.undo();
    s.be("fewer nights behind undo", house.image(), 39);
    s.refuses("an image again leaves all", h -> {
      Houses.full(h);
      h.image();
    }, SilentHouse::image, 6);
  }

  private static void promise26Back() {
    Sentence s = Sentence.of(26, "BACK to THE IMAGE (it stays): NIGHTS.");
    SilentHouse house = new SilentHouse();
    Houses.full(house);
    s.be("back to what full keeps", house.back(), 0);
    int[] due = {6, 10, 0, 17, 2, NONE, 0, 0, 300};
    for (int what = 0; what < due.length; what++) {
      s.be("about " + what, house.about(what), due[what]);
    }
    s.be("nobody sits", house.of(0, 0), NONE);
    s.be("back again is the same", house.back(), 0);
    house.seat(0, 0);
    house.night();
    s.be("behind steps, too", house.back(), 0);
    s.be("no steps in it", house.undo(), NONE);
    s.refuses("back twice is as back once", h -> {
      Houses.some(h);
      h.back();
    }, SilentHouse::back, 1);
    stepsOfTheImage(s);
  }

  /** The thirty steps that an image keeps can be taken back behind it, however often. */
  private static void stepsOfTheImage(Sentence s) {
    SilentHouse house = new SilentHouse();
    house.person(0, 0, 0);
    for (int i = 0; i < 37; i++) {
      house.seat(0, i % 16);
    }
    house.image();
    for (int turn = 0; turn < 3; turn++) {
      for (int i = 0; i < 5 + 17 * turn; i++) {
        house.seat(0, i % 2 == 0 ? 15 : 14);
      }
      house.back();
      s.be("thirty steps", house.about(6), 30);
      for (int left = 29; left >= 0; left--) {
        s.be("step by step", house.undo(), left);
      }
      s.be("the oldest of them", house.of(0, 0), 6);
      s.be("no more", house.undo(), NONE);
    }
  }

  private static void promise27About() {
    Sentence s = Sentence.of(27, "0 PEOPLE, 1 LINES, 2 NIGHTS, 3 X, 4 TEXTS, 5 THE TEXT (NONE), 6 STEPS that can be taken back, "
        + "7 SEEN, 8 bytes of the tape, 10 + seat: who is on it (NONE).");
    SilentHouse empty = new SilentHouse();
    int[] first = {0, 0, 0, 17, 0, NONE, 0, 0, 0};
    SilentHouse full = new SilentHouse();
    Houses.full(full);
    // X behind 6 nights of ten lines with five, then six, who sit is left to the model's tests.
    int[] last = {6, 10, 6, full.about(3), 4, 3, 30, 10, 300};
    for (int what = 0; what < 9; what++) {
      s.be("empty " + what, empty.about(what), first[what]);
      s.be("full " + what, full.about(what), last[what]);
    }
    for (int seat = 0; seat < 16; seat++) {
      s.be("nobody on " + seat, empty.about(10 + seat), NONE);
      s.be("six on the last seats, " + seat, full.about(10 + seat), seat < 10 ? NONE : 15 - seat);
    }
  }

  private static void promise27Minus2ForOthers() {
    Sentence s = Sentence.of(27, "-2 for others.");
    int[] others = {-1, -2, 9, 26, 27, LEAST, MOST};
    for (int what : others) {
      s.refuses("about(" + what + ") of a new one", Houses::fresh, h -> h.about(what), -2);
      s.refuses("about(" + what + ") of some", Houses::some, h -> h.about(what), -2);
      s.refuses("about(" + what + ") of a full house", Houses::full, h -> h.about(what), -2);
    }
  }

  private static void askingLeavesAllAsItWas() {
    Call[] asks = {h -> h.fault(0), h -> h.of(0, 0), h -> h.wave(0, 2), h -> h.all(1), h -> h.caused(0), h -> h.fair(0, 0),
      h -> h.quietest(NONE), h -> h.quietest(3), h -> h.cut(3), h -> h.stilled(3), h -> h.who(NONE), h -> h.who(0),
      h -> h.about(3)};
    Sentence s = Sentence.of("III.", "as SEATS and STILL are.");
    for (int ask = 0; ask < asks.length; ask++) {
      s.leaves("asking, " + ask, Houses::some, asks[ask]);
      s.leaves("asking, " + ask, Houses::full, asks[ask]);
    }
  }
}
