/** Each promise of the document by itself, with answers worked out by hand. */
public final class PromisesTest {
  private static final int NONE = SilentHouse.NONE;
  private static final int LEAST = Integer.MIN_VALUE;
  private static final int MOST = Integer.MAX_VALUE;

  private PromisesTest() {
  }

  public static void main(String[] args) {
    newObject();
    person();
    line();
    seed();
    feed();
    end();
    text();
    faultsOfPlace();
    faultsOfNumbers();
    faultsOfDepth();
    faultsOfClauses();
    faultsOfNames();
    faultsInOrder();
    by();
    values();
    seat();
    hire();
    night();
    nightByLaws();
    played();
    undo();
    of();
    wave();
    waveByLaws();
    nearSeats();
    all();
    caused();
    fair();
    quietest();
    cut();
    stilled();
    seen();
    who();
    imageAndBack();
    about();
    Due.end();
  }

  /** Three in the first row, side by side: shame 0, 2, 6; one joke of power 4; laughs by near. */
  private static SilentHouse row() {
    SilentHouse house = new SilentHouse();
    house.person(1, 0, 0);
    house.person(2, 2, 0);
    house.person(3, 6, 0);
    house.line(1, 4);
    house.seat(0, 0);
    house.seat(1, 1);
    house.seat(2, 2);
    return house;
  }

  private static void law(SilentHouse house, String text) {
    int number = Tape.read(house, text);
    Due.be("reading: " + text, number >= 0, true);
    Due.be("by", house.by(number), true);
  }

  private static void newObject() {
    SilentHouse house = new SilentHouse();
    int[] due = {0, 0, 0, 17, 0, NONE, 0, 0, 0, -2};
    for (int what = 0; what < due.length; what++) {
      Due.be("1: about " + what, house.about(what), due[what]);
    }
    for (int seat = 0; seat < 16; seat++) {
      Due.be("1: about " + (10 + seat), house.about(10 + seat), NONE);
    }
    Due.be("1: constant", SilentHouse.NONE, -1);
    house.person(1, 1, 1);
    house.line(1, 1);
    house.seat(0, 3);
    house.seed(1);
    house.night();
    Due.be("1: back to the new one", house.back(), 0);
    for (int what = 0; what < due.length; what++) {
      Due.be("1: about behind back " + what, house.about(what), due[what]);
    }
  }

  private static void person() {
    SilentHouse house = new SilentHouse();
    int[][] others = {{-1, 0, 0}, {10, 0, 0}, {0, -1, 0}, {0, 10, 0}, {0, 0, -1}, {0, 0, 11}, {LEAST, 0, 0}, {0, MOST, 0}};
    for (int[] p : others) {
      Due.be("2: others", house.person(p[0], p[1], p[2]), NONE);
    }
    Due.be("2: none came", house.about(0), 0);
    Due.be("2: lowest", house.person(0, 0, 0), 0);
    Due.be("2: highest", house.person(9, 9, 10), 1);
    for (int i = 2; i < 6; i++) {
      Due.be("2: number", house.person(i, i, i), i);
    }
    Due.be("2: a seventh", house.person(1, 1, 1), NONE);
    Due.be("2: six", house.about(0), 6);
    int[] due = {NONE, 0, 0, 9, 9, 10};
    for (int what = 0; what < 6; what++) {
      Due.be("2: of 1, " + what, house.of(1, what), due[what]);
    }
  }

  private static void line() {
    SilentHouse house = new SilentHouse();
    int[][] others = {{-1, 0}, {3, 0}, {0, -1}, {0, 10}, {MOST, 0}, {0, LEAST}};
    for (int[] l : others) {
      Due.be("3: others", house.line(l[0], l[1]), NONE);
    }
    for (int i = 0; i < 10; i++) {
      Due.be("3: number", house.line(i % 3, 9 - i), i);
    }
    Due.be("3: an eleventh", house.line(0, 0), NONE);
    Due.be("3: ten", house.about(1), 10);
    Due.be("3: sort", house.wave(8, 3), 2);
    Due.be("3: power", house.wave(8, 4), 1);
  }

  private static void seed() {
    SilentHouse house = new SilentHouse();
    Due.be("4: below", house.seed(-1), false);
    Due.be("4: above", house.seed(10000), false);
    Due.be("4: as it was", house.about(3), 17);
    Due.be("4: highest", house.seed(9999), true);
    Due.be("4: X", house.about(3), 30014);
    Due.be("4: lowest", house.seed(0), true);
    Due.be("4: X", house.about(3), 17);
    Due.be("4: no step", house.about(6), 0);
  }

  private static void feed() {
    SilentHouse house = new SilentHouse();
    // "dues 1;" and blanks, the highest byte first
    Due.be("5: twenty", house.feed(0x64756573, 0x20313b20, 0x20202020, 0x0a0a0a0a, 0x20200a20), 20);
    Due.be("5: read", house.text(), 0);
    Due.be("5: no fault", house.fault(0), 0);
    for (int i = 1; i <= 15; i++) {
      Due.be("5: how many", house.feed(MOST, LEAST, -1, 0, 1), 20 * i);
    }
    Due.be("5: too many", house.feed(0, 0, 0, 0, 0), NONE);
    Due.be("5: none came", house.about(8), 300);
    house.end(281);
    Due.be("5: 301 would be too many", house.feed(0, 0, 0, 0, 0), NONE);
    Due.be("5: none came", house.about(8), 281);
    house.end(280);
    Due.be("5: 300 are not", house.feed(0, 0, 0, 0, 0), 300);
  }

  private static void end() {
    SilentHouse house = new SilentHouse();
    Due.be("6: of none", house.end(0), 0);
    Due.be("6: not so many", house.end(1), NONE);
    house.feed(1, 2, 3, 4, 5);
    Due.be("6: below", house.end(-1), NONE);
    Due.be("6: lowest", house.end(LEAST), NONE);
    Due.be("6: above", house.end(21), NONE);
    Due.be("6: as it was", house.about(8), 20);
    Due.be("6: all", house.end(20), 20);
    Due.be("6: seven", house.end(7), 7);
    Due.be("6: no more than seven", house.end(8), NONE);
    Due.be("6: has", house.about(8), 7);
    Tape.put(house, "night; night;");
    house.end(6);
    Due.be("6: the first bytes stay", house.text(), 0);
  }

  private static void text() {
    SilentHouse house = new SilentHouse();
    Due.be("7: an empty one", house.text(), 0);
    Due.be("8: none of it", house.fault(0), 0);
    Due.be("7: a fault", Tape.read(house, "nights;"), NONE);
    Due.be("7: the tape is empty behind a fault", house.about(8), 0);
    Due.be("7: it isn't one", house.about(4), 1);
    Due.be("7: next", Tape.read(house, "night;"), 1);
    Due.be("7: the tape is empty", house.about(8), 0);
    Due.be("7: next", Tape.read(house, " \n "), 2);
    Due.be("7: last", Tape.read(house, "laughs 1 < 2; loud 3; dues 4; seat 0 at 15; out 5; hire 0; night;"), 3);
    Due.be("7: a fifth", Tape.read(house, "night;"), NONE);
    Due.be("7: the tape stays", house.about(8), 6);
    Due.be("8: it was not read", house.fault(0), 0);
    Due.be("7: a fifth with a fault", Tape.read(house, "foo"), NONE);
    Due.be("7: the tape stays", house.about(8), 3);
    Due.be("8: it was not read", house.fault(0), 0);
    Due.be("8: it was not read", house.fault(1), NONE);
    Due.be("7: four", house.about(4), 4);
  }

  private static void faulty(String text, int what, int place) {
    SilentHouse house = new SilentHouse();
    Due.be("8: ahead of any", house.fault(0), NONE);
    Due.be("8: ahead of any", house.fault(1), NONE);
    Due.be("7: " + text, Tape.read(house, text), what == 0 ? 0 : NONE);
    Due.be("8: fault of " + text, house.fault(0), what);
    Due.be("8: place of " + text, house.fault(1), place);
    Due.be("8: others", house.fault(2), NONE);
    Due.be("8: others", house.fault(-1), NONE);
  }

  private static void faultless(String text) {
    faulty(text, 0, NONE);
  }

  private static void faultsOfPlace() {
    faulty("foo", 1, 0);
    faulty("  ;", 1, 2);
    faulty("Night;", 1, 0);
    faulty("night", 1, 5);
    faulty("night \n ", 1, 8);
    faulty("night;!", 1, 6);
    faulty("night\t;", 1, 5);
    faulty("night" + (char) 233 + ";", 1, 5);
    faulty("night;" + (char) 0, 1, 6);
    faulty("laughs 1;", 1, 8);
    faulty("laughs 1 < 2 < 3;", 1, 13);
    faulty("laughs 1 < = 2;", 1, 11);
    faulty("laughs 1 =< 2;", 1, 10);
    faulty("laughs (1 < 2);", 1, 10);
    faulty("laughs 1 < 2 or;", 1, 15);
    faulty("laughs not;", 1, 10);
    faulty("laughs 1 not < 2;", 1, 9);
    faulty("loud not 1;", 1, 5);
    faulty("loud 1 < 2;", 1, 7);
    faulty("loud ;", 1, 5);
    faulty("loud", 1, 4);
    faulty("loud 1 +;", 1, 8);
    faulty("loud 1 2;", 1, 7);
    faulty("loud (1;", 1, 7);
    faulty("loud 1);", 1, 6);
    faulty("loud ();", 1, 6);
    faulty("loud + 1;", 1, 5);
    faulty("loud foo;", 1, 5);
    faulty("loud laughs;", 1, 5);
    faulty("loud at;", 1, 5);
    faulty("seat at 3;", 1, 5);
    faulty("seat 1 3;", 1, 7);
    faulty("seat 1 at ;", 1, 10);
    faulty("seat -1 at 3;", 1, 5);
    faulty("seat 1 at 3 night;", 1, 12);
    faulty("out wit;", 1, 4);
    faulty("hire;", 1, 4);
    faulty("night 1;", 1, 6);
    faultless("loud-1;");
    faultless("loud 1--1;");
    faultless("laughs 1<2and 3>=4or not 5#wit;");
    faultless("laughs not 1 < 2 and not not 3 = 4;");
    faultless("\nnight\n;\n");
    faultless("");
  }

  private static void faultsOfNumbers() {
    faultless("loud 9999;");
    faulty("loud 10000;", 2, 5);
    faulty("loud 99999999999999999999;", 2, 5);
    faultless("loud 00000000000000009999;");
    faulty("loud 1 + 00010000;", 2, 9);
    faultless("seat 5 at 15;");
    faulty("seat 6 at 3;", 2, 5);
    faulty("seat 99999 at 3;", 2, 5);
    faulty("seat 0 at 16;", 2, 10);
    faulty("out 6;", 2, 4);
    faulty("hire 6;", 2, 5);
    // where a number can't stand at all, that is the lesser fault
    faulty("night 10000;", 1, 6);
  }

  private static void faultsOfDepth() {
    faultless("loud ((((((((1))))))));");
    faulty("loud (((((((((1)))))))));", 3, 13);
    faultless("loud --------1;");
    faulty("loud ---------1;", 3, 13);
    faultless("laughs not not not not not not not not 1 < 2;");
    faulty("laughs not not not not not not not not not 1 < 2;", 3, 39);
    faulty("laughs not not not not -(-(1)) < 2 and not (((((((( 1", 3, 50);
    faulty("laughs not (1) < ((((((((1", 3, 24);
    faulty("laughs not not not not -(-(-1)) < 2;", 3, 27);
    faultless("laughs not -(((((-1))))) < (1) + ((2)) - -3 and not 1 < ((((((( 1 )))))));");
    faultless("loud (1) + (2) * (3) - -4 - (5) - (6) - (7) - (8) - (9) - (10);");
    faultless("loud - 1 + ((((((((1))))))));");
    // the ninth where it can't stand is the lesser fault
    faulty("loud ((((((((1(", 1, 14);
  }

  private static void faultsOfClauses() {
    faulty("loud 1; loud 2;", 4, 8);
    faulty("dues 1; night; dues", 4, 15);
    faulty("laughs 1 < 2; laughs ;", 4, 14);
    faultless("loud 1; laughs 1 < 2; dues 3;");
    faultless("night;".repeat(24));
    faulty("night;".repeat(25), 6, 144);
    faulty("night;".repeat(24) + " loud", 6, 145);
    faulty("night;".repeat(24) + "foo", 1, 144);
    faulty("night;".repeat(24) + "!", 1, 144);
    faulty("loud 1;" + "night;".repeat(23) + "loud 1;", 4, 145);
    faulty("loud 1;" + "night;".repeat(23) + "dues 1;", 6, 145);
  }

  private static void faultsOfNames() {
    String[] names = {"wit", "shame", "row", "sort", "power", "near", "all", "laughing", "rounds", "coughs", "bill", "people",
      "often", "coughed"};
    String laughs = " wit shame row sort power near all ";
    String loud = " sort power laughing rounds coughs ";
    String dues = " wit shame row bill people often coughed ";
    for (String name : names) {
      boolean inLaughs = laughs.contains(" " + name + " ");
      boolean inLoud = loud.contains(" " + name + " ");
      boolean inDues = dues.contains(" " + name + " ");
      faulty("laughs 1 < " + name + ";", inLaughs ? 0 : 5, inLaughs ? NONE : 11);
      faulty("loud " + name + ";", inLoud ? 0 : 5, inLoud ? NONE : 5);
      faulty("dues " + name + ";", inDues ? 0 : 5, inDues ? NONE : 5);
      faulty("loud 1 " + name + ";", 1, 7);
    }
  }

  private static void faultsInOrder() {
    faulty("loud near + foo;", 5, 5);
    faulty("loud 1 + foo; loud 10000;", 1, 9);
    faulty("loud 10000", 2, 5);
    faulty("seat 6 foo", 2, 5);
    SilentHouse house = new SilentHouse();
    Tape.read(house, "foo");
    Tape.read(house, "loud 1;");
    Due.be("8: of the latest", house.fault(0), 0);
    Due.be("8: of the latest", house.fault(1), NONE);
    Tape.read(house, "loud 1; loud 2;");
    house.back();
    Due.be("8: not in the image", house.fault(0), 4);
    Due.be("8: not in the image", house.fault(1), 8);
  }

  private static void by() {
    SilentHouse house = row();
    Due.be("9: none there", house.by(0), false);
    Tape.read(house, "loud 7;");
    Tape.read(house, "loud laughing * 20 + rounds;");
    Due.be("9: at first none", house.about(5), NONE);
    Due.be("9: not ruling yet", house.wave(0, 2), 2);
    Due.be("9: first", house.by(0), true);
    Due.be("9: rules", house.wave(0, 2), 7);
    Due.be("9: again", house.by(0), true);
    Due.be("9: second", house.by(1), true);
    Due.be("9: rules", house.wave(0, 2), 41);
    Due.be("9: others", house.by(2), false);
    Due.be("9: others", house.by(-2), false);
    Due.be("9: others", house.by(MOST), false);
    Due.be("9: still", house.about(5), 1);
    Due.be("9: none", house.by(NONE), true);
    Due.be("9: none rules", house.wave(0, 2), 2);
    Due.be("9: no step", house.about(6), 3);
  }

  /** What a sum comes to, as dues of one who sits alone: wit 3, shame 4, row 2. */
  private static void worth(String sum, int due) {
    SilentHouse house = new SilentHouse();
    house.person(3, 4, 0);
    house.seat(0, 9);
    law(house, "dues " + sum + ";");
    house.night();
    Due.be("II: dues " + sum, house.of(0, 2), due);
  }

  private static void holds(String ask, boolean due) {
    SilentHouse house = new SilentHouse();
    house.person(3, 4, 0);
    house.seat(0, 9);
    house.line(2, 6);
    law(house, "laughs " + ask + ";");
    Due.be("II: laughs " + ask, house.wave(0, 0) == 1, due);
  }

  private static void values() {
    worth("1 + 2 * 3", 7);
    worth("(1 + 2) * 3", 9);
    worth("10 - 3 - 2", 5);
    worth("100 / 7 / 2 * 3", 21);
    worth("7 / 2", 3);
    worth("-7 / 2 + 10", 7);
    worth("7 / -2 + 10", 7);
    worth("5 / 0 + 4", 4);
    worth("-3 * -4", 12);
    worth("- - 5", 5);
    worth("-2 + 5", 3);
    worth("-(2 + 5) + 10", 3);
    worth("wit * 100 + shame * 10 + row", 342);
    worth("9999 * 9999 - 9999 * 100 - 50", 50);
    worth("-9999 * 9999 + 9999 * 100 + 150", 50);
    worth("9999 * 9999 + 9999 - 9999 * 100", 100);
    worth("0 - 9999 * 9999 - 9999 + 9999 * 100 + 101", 1);
    worth("9999 * 9999 * 9999 / 9999", 100);
    worth("9999", 999);
    worth("1000", 999);
    worth("999", 999);
    worth("0 - 5", 0);
    holds("1 < 2", true);
    holds("2 < 2", false);
    holds("2 <= 2", true);
    holds("3 <= 2", false);
    holds("3 > 2", true);
    holds("2 > 2", false);
    holds("2 >= 2", true);
    holds("1 >= 2", false);
    holds("2 = 2", true);
    holds("1 = 2", false);
    holds("1 # 2", true);
    holds("2 # 2", false);
    holds("not 1 < 2", false);
    holds("not not 1 < 2", true);
    holds("not 1 < 2 or 1 < 2", true);
    holds("not 1 > 2 and 1 > 2", false);
    holds("1 < 2 or 1 < 2 and 1 > 2", true);
    holds("1 > 2 and 1 > 2 or 1 < 2", true);
    holds("1 < 2 and 1 > 2 or 1 > 2", false);
    holds("wit = 3 and shame = 4 and row = 2 and sort = 2 and power = 6 and near = 0 and all = 0", true);
  }

  private static void seat() {
    SilentHouse house = new SilentHouse();
    Due.be("10: nobody there", house.seat(0, 0), false);
    house.person(1, 1, 1);
    house.person(2, 2, 2);
    Due.be("10: has none already", house.seat(0, NONE), false);
    Due.be("10: no seat", house.seat(0, 16), false);
    Due.be("10: no seat", house.seat(0, -2), false);
    Due.be("10: nobody", house.seat(2, 0), false);
    Due.be("10: nobody", house.seat(-1, 0), false);
    Due.be("10: no step", house.about(6), 0);
    Due.be("10: first seat", house.seat(0, 0), true);
    Due.be("10: last seat", house.seat(1, 15), true);
    Due.be("10: taken", house.seat(1, 0), false);
    Due.be("10: so already", house.seat(1, 15), false);
    Due.be("10: another", house.seat(1, 14), true);
    Due.be("10: it is on", house.of(1, 0), 14);
    Due.be("10: left behind", house.about(25), NONE);
    Due.be("10: out", house.seat(0, NONE), true);
    Due.be("10: out already", house.seat(0, NONE), false);
    Due.be("10: free again", house.seat(1, 0), true);
    Due.be("10: steps", house.about(6), 5);
  }

  private static void hire() {
    SilentHouse house = row();
    Due.be("11: nobody", house.hire(3, true), false);
    Due.be("11: nobody", house.hire(-1, true), false);
    Due.be("11: isn't", house.hire(0, false), false);
    Due.be("11: is", house.hire(0, true), true);
    Due.be("11: is already", house.hire(0, true), false);
    Due.be("11: of", house.of(0, 1), 1);
    Due.be("11: doesn't laugh", house.wave(0, 0), 2);
    Due.be("11: isn't any more", house.hire(0, false), true);
    Due.be("11: laughs", house.wave(0, 0), 3);
    house.seat(2, NONE);
    Due.be("11: who doesn't sit", house.hire(2, true), true);
    Due.be("11: steps", house.about(6), 7);
    law(house, "laughs 1 < 2;");
    house.hire(1, true);
    Due.be("11: against every law", house.wave(0, 0), 1);
  }

  private static void night() {
    SilentHouse house = new SilentHouse();
    house.person(0, 0, 8);
    Due.be("12: nobody sits", house.night(), NONE);
    Due.be("12: no step", house.about(6), 0);
    house.seat(0, 0);
    Due.be("12: no lines", house.night(), 0);
    Due.be("12: no draw", house.about(3), 17);
    Due.be("12: counted", house.about(2), 1);
    house.line(1, 1);
    house.line(0, 9);
    // 17: 7 < 8 a cough, and a laugh; (17 * 227 + 61) mod 30119 = 3920: 0 < 8 a cough
    Due.be("12: bill", house.night(), 3);
    // (3920 * 227 + 61) mod 30119 = 889901 mod 30119 = 16450
    Due.be("12: X", house.about(3), 16450);
    Due.be("12: paid", house.of(0, 2), 3);
    house.person(0, 9, 0);
    house.person(0, 9, 10);
    house.seat(2, 5);
    house.hire(2, true);
    house.seed(0);
    // person 0: 7 < 8, person 2: always, though still; then 0 again by (3920 ->) 16450: 0 < 8
    Due.be("12: by number, who sits alone", house.night(), 5);
    Due.be("12: the bill by how many sit, cut", house.of(0, 2), 5);
    Due.be("12: likewise", house.of(2, 2), 2);
    Due.be("12: who doesn't sit pays nothing", house.of(1, 2), 0);
    Due.be("12: nights", house.about(2), 3);
  }

  private static void nightByLaws() {
    SilentHouse house = new SilentHouse();
    house.person(7, 1, 10);
    house.person(2, 5, 0);
    house.line(1, 3);
    house.line(2, 8);
    house.line(0, 0);
    house.seat(0, 4);
    house.seat(1, 13);
    law(house, "loud 10 * laughing + rounds + 100 * coughs - 90; dues often * 100 + coughed * 10 + people + row + bill;");
    // Line 0: one laughs, one round, one cough: 21; lines 1, 2: one cough: 10 each.
    Due.be("12: bill by loud", house.night(), 41);
    Due.be("12: dues", house.of(0, 2), 100 + 30 + 2 + 1 + 41);
    Due.be("12: dues", house.of(1, 2), 0 + 0 + 2 + 3 + 41);
    law(house, "loud coughs * 100; dues bill * 10;");
    Due.be("12: 99 at most", house.night(), 297);
    Due.be("12: 999 at most", house.of(1, 2), 46 + 999);
    law(house, "loud 0 - 1; dues 0 - 1;");
    Due.be("12: 0 at least", house.night(), 0);
    Due.be("12: 0 at least", house.of(1, 2), 46 + 999);
  }

  private static void played() {
    SilentHouse house = new SilentHouse();
    house.person(1, 0, 0);
    house.person(2, 2, 0);
    house.line(1, 4);
    Due.be("13: others", house.played(0), -2);
    Tape.read(house, "loud 9; seat 0 at 5; seat 1 at 6; night; out 1; hire 0; dues 1;");
    Due.be("13: others", house.played(1), -2);
    Due.be("13: others", house.played(-1), -2);
    Due.be("13: others", house.played(4), -2);
    Due.be("13: others", house.played(LEAST), -2);
    Due.be("13: all is done", house.played(0), NONE);
    Due.be("13: seat", house.of(0, 0), 5);
    Due.be("13: out", house.of(1, 0), NONE);
    Due.be("13: hire", house.of(0, 1), 1);
    Due.be("13: its laws don't rule by that", house.of(0, 2), 1);
    Due.be("13: steps", house.about(6), 5);
    Due.be("13: so already", house.played(0), 1);
    Due.be("13: nothing done", house.about(6), 5);
    house.seat(0, NONE);
    Due.be("13: still already", house.played(0), 5);
    Due.be("13: what was done stays", house.about(2), 2);
    Due.be("13: what was done stays", house.of(1, 0), NONE);
    Tape.read(house, "out 0; night;");
    Due.be("13: a night of nobody", house.played(1), 1);
    Tape.read(house, "hire 1; hire 3;");
    Due.be("13: nobody of that number", house.played(2), 1);
    Tape.read(house, "");
    Due.be("13: nothing to do", house.played(3), NONE);
  }

  private static void undo() {
    SilentHouse house = row();
    Due.be("14: seats", house.undo(), 2);
    Due.be("14: none", house.of(2, 0), NONE);
    house.hire(0, true);
    house.hire(0, false);
    Due.be("14: hired no more", house.undo(), 3);
    Due.be("14: still", house.of(0, 1), 1);
    Due.be("14: hired", house.undo(), 2);
    Due.be("14: not still", house.of(0, 1), 0);
    house.night();
    Due.be("14: paid", house.of(0, 2), 1);
    house.person(4, 4, 4);
    house.line(0, 0);
    Tape.read(house, "night;");
    house.by(0);
    house.seen(1);
    Due.be("14: a night", house.undo(), 2);
    Due.be("14: not paid", house.of(0, 2), 0);
    Due.be("14: X", house.about(3), 17);
    Due.be("14: nights", house.about(2), 0);
    int[] stays = {4, 2, 0, 17, 1, 0, 2, 1};
    for (int what = 0; what < stays.length; what++) {
      Due.be("14: what was told stays " + what, house.about(what), stays[what]);
    }
    house.seat(3, 9);
    house.seed(4);
    Due.be("14: X is as ahead of the step", house.undo(), 2);
    Due.be("14: X is as ahead of the step", house.about(3), 17);
    house.undo();
    house.undo();
    Due.be("14: none is left", house.undo(), NONE);
    Due.be("14: nobody sits", house.of(0, 0), NONE);
    for (int i = 0; i < 35; i++) {
      house.seat(0, i % 16);
    }
    Due.be("14: thirty", house.about(6), 30);
    for (int left = 29; left >= 0; left--) {
      Due.be("14: how many yet", house.undo(), left);
      Due.be("14: the seat ahead of it", house.of(0, 0), (left + 4) % 16);
    }
    Due.be("14: the oldest are gone", house.undo(), NONE);
    Tape.read(house, "out 0; seat 0 at 7; night;");
    house.played(1);
    Due.be("14: step by step", house.undo(), 2);
    Due.be("14: step by step", house.of(0, 0), 7);
  }

  private static void of() {
    SilentHouse house = new SilentHouse();
    Due.be("15: nobody", house.of(0, 0), -2);
    house.person(3, 4, 5);
    house.seat(0, 8);
    house.hire(0, true);
    house.line(0, 0);
    law(house, "dues 6;");
    house.night();
    int[] due = {8, 1, 6, 3, 4, 5};
    for (int what = 0; what < due.length; what++) {
      Due.be("15: of " + what, house.of(0, what), due[what]);
    }
    Due.be("15: others", house.of(0, 6), -2);
    Due.be("15: others", house.of(0, -1), -2);
    Due.be("15: others", house.of(1, 0), -2);
    Due.be("15: others", house.of(-1, 0), -2);
    Due.be("15: others", house.of(MOST, 0), -2);
  }

  private static void wave() {
    SilentHouse house = new SilentHouse();
    house.person(0, 4, 10);
    house.person(0, 5, 10);
    house.person(0, 0, 10);
    int[] sorts = {0, 1, 2};
    for (int sort : sorts) {
      house.line(sort, 5);
    }
    int[][] nobody = {{0, 0, 0, 0, 5}, {0, 0, 0, 1, 5}, {0, 0, 0, 2, 5}};
    int[][] two = {{0, 0, 0, 0, 5}, {1, 1, 1, 1, 5}, {0, 0, 0, 2, 5}};
    for (int line = 0; line < 3; line++) {
      for (int what = 0; what < 5; what++) {
        Due.be("16: nobody sits", house.wave(line, what), nobody[line][what]);
      }
    }
    house.seat(0, 3);
    house.seat(1, 2);
    for (int line = 0; line < 3; line++) {
      for (int what = 0; what < 5; what++) {
        Due.be("16: two sit", house.wave(line, what), two[line][what]);
      }
    }
    Due.be("16: others", house.wave(3, 0), NONE);
    Due.be("16: others", house.wave(-1, 0), NONE);
    Due.be("16: others", house.wave(0, 5), NONE);
    Due.be("16: others", house.wave(0, -1), NONE);
    Due.be("16: X stays", house.about(3), 17);
  }

  private static void waveByLaws() {
    SilentHouse house = new SilentHouse();
    for (int p = 0; p < 6; p++) {
      house.person(p, 0, 0);
    }
    house.line(1, 9);
    // One in a corner, along the row, round the end into the next row: five are a chain, the last is apart.
    int[] seats = {0, 1, 2, 3, 7, 12};
    for (int p = 0; p < 6; p++) {
      house.seat(p, seats[p]);
    }
    law(house, "laughs wit = 0 or near > 0;");
    Due.be("16: the chain", house.wave(0, 0), 31);
    Due.be("16: rounds", house.wave(0, 1), 5);
    house.hire(2, true);
    Due.be("16: who is still stops it", house.wave(0, 0), 3);
    Due.be("16: rounds", house.wave(0, 1), 2);
    house.undo();
    law(house, "laughs wit = all;");
    // Behind each round one more laughs, wherever.
    Due.be("16: by all", house.wave(0, 0), 63);
    Due.be("16: rounds", house.wave(0, 1), 6);
    law(house, "laughs near = 0 and all = 0 and wit < 2 or all = 2 and near = 1;");
    // 0 and 1 together; then 2, who has one of them near; then nobody: three laugh.
    Due.be("16: who laughed goes on laughing", house.wave(0, 0), 7);
    Due.be("16: rounds", house.wave(0, 1), 2);
    house.seat(5, 4);
    // 3 and 4 are no neighbours, though their numbers are one off; 4 is near 0.
    Due.be("16: seats of other rows", house.wave(0, 0), 39);
    law(house, "laughs row = 1;");
    Due.be("16: row", house.wave(0, 0), 48);
  }

  private static void nearSeats() {
    for (int one = 0; one < 16; one++) {
      for (int other = 0; other < 16; other++) {
        SilentHouse house = new SilentHouse();
        house.person(0, 0, 0);
        house.person(1, 0, 0);
        house.line(0, 0);
        law(house, "laughs wit = 0 or near = 1;");
        house.seat(0, one);
        if (house.seat(1, other)) {
          int apart = Math.abs(one / 4 - other / 4) + Math.abs(one % 4 - other % 4);
          Due.be("16: " + one + " and " + other, house.wave(0, 0), apart == 1 ? 3 : 1);
        }
      }
    }
  }

  private static void all() {
    SilentHouse house = row();
    Due.be("17: none", house.all(0), 0);
    Due.be("17: all", house.all(63), 2);
    Due.be("17: one", house.all(2), 1);
    Due.be("17: below", house.all(-1), NONE);
    Due.be("17: above", house.all(64), NONE);
    house.line(1, 9);
    Due.be("17: a line more", house.all(7), 5);
    law(house, "laughs shame = 0 or near > 0; loud laughing * 10 + 1;");
    Due.be("17: of nobody, too", house.all(0), 2);
    Due.be("17: as the others were not there", house.all(5), 22);
    Due.be("17: all", house.all(7), 62);
    Due.be("17: who doesn't sit isn't asked", house.all(7 + 56), 62);
    house.seat(1, NONE);
    Due.be("17: who doesn't sit isn't asked", house.all(7), 22);
    house.hire(0, true);
    Due.be("17: still", house.all(7), 2);
  }

  private static void caused() {
    SilentHouse house = row();
    Due.be("18: one", house.caused(0), 1);
    Due.be("18: none", house.caused(2), 0);
    Due.be("18: others", house.caused(3), -1000);
    Due.be("18: others", house.caused(-1), -1000);
    Due.be("18: others", house.caused(MOST), -1000);
    law(house, "laughs shame = 0 or near > 0; loud laughing * 10;");
    Due.be("18: a whole wave", house.caused(0), 30);
    Due.be("18: the end of it", house.caused(2), 10);
    law(house, "loud 50 - laughing * 20;");
    Due.be("18: below 0", house.caused(0), -20);
    house.seat(0, NONE);
    Due.be("18: doesn't sit", house.caused(0), -1000);
  }

  private static void fair() {
    SilentHouse house = row();
    Due.be("19: one", house.fair(0, 0), 1);
    Due.be("19: by one", house.fair(0, 1), 1);
    Due.be("19: nothing", house.fair(2, 0), 0);
    Due.be("19: by one", house.fair(2, 1), 1);
    Due.be("19: others", house.fair(0, 2), -1000000);
    Due.be("19: others", house.fair(0, -1), -1000000);
    Due.be("19: others", house.fair(3, 0), -1000000);
    Due.be("19: others", house.fair(-1, 0), -1000000);
    law(house, "laughs shame = 0 or near > 0; loud laughing;");
    // 0 alone 1, 01: 2, 02: 1, 012: 3, others 0. 0: (1+1+2+1+3+3)/6, 1: (1+0+0+0+2+2)/6 = 5/6, 2: 2/6.
    int[] upper = {11, 5, 1};
    int[] lower = {6, 6, 3};
    for (int p = 0; p < 3; p++) {
      Due.be("19: upper of " + p, house.fair(p, 0), upper[p]);
      Due.be("19: lower of " + p, house.fair(p, 1), lower[p]);
    }
    law(house, "laughs shame = 0 or near > 0; loud 9 - laughing;");
    for (int p = 0; p < 3; p++) {
      Due.be("19: below 0, upper of " + p, house.fair(p, 0), -upper[p]);
      Due.be("19: below 0, lower of " + p, house.fair(p, 1), lower[p]);
    }
    house.seat(2, NONE);
    Due.be("19: doesn't sit", house.fair(2, 0), -1000000);
    Due.be("19: doesn't sit", house.fair(2, 1), -1000000);
    Due.be("19: of two", house.fair(1, 1), 2);
  }

  private static void quietest() {
    SilentHouse house = row();
    Due.be("20: ALL", house.quietest(NONE), 2);
    Due.be("20: others", house.quietest(16), -2);
    Due.be("20: others", house.quietest(-2), -2);
    law(house, "laughs shame = 0 or near > 0 and shame < 6;");
    // 0 beside 2 and away from 1 is quiet: 0 2 1 comes ahead of 1 2 0.
    int[] due = {0, 2, 1, NONE};
    Due.be("20: ALL", house.quietest(NONE), 1);
    for (int seat = 0; seat < 4; seat++) {
      Due.be("20: seat " + seat, house.quietest(seat), due[seat]);
    }
    Due.be("20: nobody is moved", house.of(1, 0), 1);
    house.seat(0, 8);
    // On 1, 2, 8 all are as quiet as can be if 0 is on 8, or if 2 is beside 0.
    int[] then = {NONE, 0, 2, NONE, NONE, NONE, NONE, NONE, 1};
    for (int seat = 0; seat < then.length; seat++) {
      Due.be("20: seats that are taken now " + seat, house.quietest(seat), then[seat]);
    }
    law(house, "laughs row < 1 and shame = 2; loud laughing + 5;");
    Due.be("20: by row", house.quietest(NONE), 5);
    Due.be("20: by row", house.quietest(8), 1);
    Due.be("20: by row", house.quietest(1), 0);
    house.hire(1, true);
    Due.be("20: being still goes along", house.quietest(8), 2);
    SilentHouse nobody = new SilentHouse();
    Due.be("20: nobody sits", nobody.quietest(NONE), 0);
    Due.be("20: nobody sits", nobody.quietest(0), NONE);
    SilentHouse alike = new SilentHouse();
    for (int p = 0; p < 6; p++) {
      alike.person(p, p, p);
      alike.seat(p, 15 - 2 * p);
    }
    for (int p = 0; p < 6; p++) {
      Due.be("20: of like ones the lowest person for the lowest seat", alike.quietest(5 + 2 * p), p);
    }
  }

  private static void cut() {
    SilentHouse house = new SilentHouse();
    Due.be("21: nothing to cut", house.cut(0), 0);
    int[] powers = {3, 1, 3, 2, 0};
    for (int power : powers) {
      house.line(1, power);
    }
    for (int p = 0; p < 3; p++) {
      house.person(0, p, 10);
      house.seat(p, p);
    }
    // Loud 3, 1, 3, 2, 0: without coughs 9 in all.
    Due.be("21: none", house.cut(9), 0);
    Due.be("21: none", house.cut(990), 0);
    Due.be("21: the lowest of one", house.cut(8), 1);
    Due.be("21: one", house.cut(6), 1);
    Due.be("21: two, the lowest set", house.cut(5), 3);
    Due.be("21: two", house.cut(4), 5);
    Due.be("21: two", house.cut(3), 5);
    Due.be("21: three", house.cut(2), 7);
    Due.be("21: three", house.cut(1), 13);
    Due.be("21: four", house.cut(0), 15);
    Due.be("21: below", house.cut(-1), NONE);
    Due.be("21: above", house.cut(991), NONE);
    law(house, "loud 1;");
    Due.be("21: every line", house.cut(0), 31);
  }

  private static void stilled() {
    SilentHouse house = row();
    Due.be("22: none more", house.stilled(2), 0);
    Due.be("22: one", house.stilled(1), 1);
    Due.be("22: both", house.stilled(0), 3);
    Due.be("22: below", house.stilled(-1), NONE);
    Due.be("22: above", house.stilled(991), NONE);
    Due.be("22: highest", house.stilled(990), 0);
    law(house, "laughs shame = 2 or near > 0;");
    Due.be("22: who began it", house.stilled(0), 2);
    Due.be("22: who ends it", house.stilled(2), 1);
    law(house, "loud laughing + 3;");
    Due.be("22: enough", house.stilled(3), 3);
    Due.be("22: not even all", house.stilled(2), NONE);
    house.hire(0, true);
    Due.be("22: more than those who are", house.stilled(3), 2);
    house.seat(1, NONE);
    Due.be("22: who sits alone", house.stilled(3), 0);
    law(house, "loud 9 - laughing;");
    house.hire(0, false);
    Due.be("22: as it is already", house.stilled(8), 0);
    Due.be("22: no set of them", house.stilled(7), NONE);
  }

  private static void seen() {
    SilentHouse house = new SilentHouse();
    Due.be("23: no lines", house.seen(0), -2);
    Due.be("23: nothing seen", house.seen(NONE), 0);
    house.line(1, 1);
    house.line(1, 1);
    Due.be("23: below", house.seen(-2), -2);
    Due.be("23: above", house.seen(100), -2);
    Due.be("23: highest", house.seen(99), 1);
    Due.be("23: lowest", house.seen(0), 2);
    Due.be("23: no more lines", house.seen(0), -2);
    Due.be("23: about", house.about(7), 2);
    Due.be("23: nothing any more", house.seen(NONE), 0);
    Due.be("23: about", house.about(7), 0);
    for (int i = 0; i < 8; i++) {
      house.line(0, 0);
    }
    for (int i = 1; i <= 10; i++) {
      Due.be("23: how many", house.seen(0), i);
    }
    Due.be("23: an eleventh", house.seen(0), -2);
    Due.be("23: no step", house.about(6), 0);
  }

  private static void who() {
    SilentHouse house = row();
    Due.be("24: all sets", house.who(NONE), 8);
    Due.be("24: none, too", house.who(0), 0);
    Due.be("24: the last", house.who(7), 7);
    Due.be("24: none such", house.who(8), NONE);
    Due.be("24: others", house.who(-2), NONE);
    Due.be("24: others", house.who(LEAST), NONE);
    Due.be("24: others", house.who(MOST), NONE);
    house.seen(1);
    int[] ones = {1, 2, 5, 6};
    Due.be("24: how many", house.who(NONE), 4);
    for (int i = 0; i < 4; i++) {
      Due.be("24: the " + i, house.who(i), ones[i]);
    }
    law(house, "laughs shame = 0 or near > 0;");
    Due.be("24: the others not being there", house.who(NONE), 2);
    Due.be("24: 0", house.who(0), 1);
    Due.be("24: 0 and 2", house.who(1), 5);
    house.line(1, 7);
    house.seen(2);
    Due.be("24: each line", house.who(NONE), 0);
    Due.be("24: none", house.who(0), NONE);
    house.by(NONE);
    Due.be("24: shame 6 below 7", house.who(NONE), 2);
    Due.be("24: 0 and 2", house.who(0), 5);
    Due.be("24: 1 and 2", house.who(1), 6);
    house.seat(1, NONE);
    Due.be("24: of those who sit", house.who(NONE), 1);
    house.hire(2, true);
    Due.be("24: still", house.who(NONE), 0);
  }

  private static void imageAndBack() {
    SilentHouse house = row();
    Tape.read(house, "loud laughing * 2;");
    house.by(0);
    house.night();
    house.seen(4);
    Due.be("25: nights", house.image(), 1);
    house.night();
    house.hire(0, true);
    house.seat(1, NONE);
    house.person(5, 5, 5);
    house.line(2, 2);
    house.seed(77);
    house.seen(NONE);
    Tape.read(house, "loud 50;");
    house.by(1);
    Tape.read(house, "foo");
    Tape.put(house, "night;");
    Due.be("26: nights", house.back(), 1);
    // X behind three draws: 17, 3920, 16450, 29574
    int[] due = {3, 1, 1, 29574, 1, 0, 4, 1, 6};
    for (int what = 0; what < due.length; what++) {
      Due.be("26: about " + what, house.about(what), due[what]);
    }
    Due.be("26: the latest fault stays", house.fault(0), 1);
    Due.be("26: seat", house.of(1, 0), 1);
    Due.be("26: still", house.of(0, 1), 0);
    Due.be("26: paid", house.of(0, 2), 1);
    Due.be("26: law", house.wave(0, 2), 4);
    Due.be("26: gone", house.of(3, 0), -2);
    Due.be("26: the tape is what it was", house.text(), 1);
    Due.be("26: the other text is gone", house.played(1), NONE);
    Due.be("26: it stays", house.back(), 1);
    Due.be("26: line anew", house.line(1, 9), 1);
    Due.be("26: by what it is now", house.wave(1, 2), 6);
    house.back();
    Due.be("26: line anew", house.line(1, 1), 1);
    Due.be("26: by what it is now", house.wave(1, 2), 2);
    house.back();
    Due.be("26: steps are back, too", house.undo(), 3);
    Due.be("26: the night is taken back", house.about(2), 0);
    Due.be("26: and X", house.about(3), 17);
    Due.be("25: nights", house.image(), 0);
    house.night();
    Due.be("26: the newest image", house.back(), 0);
  }

  private static void about() {
    SilentHouse house = row();
    house.feed(0, 0, 0, 0, 0);
    int[] due = {3, 1, 0, 17, 0, NONE, 3, 0, 20, -2, 0, 1, 2, NONE};
    for (int what = 0; what < due.length; what++) {
      Due.be("27: about " + what, house.about(what), due[what]);
    }
    Due.be("27: others", house.about(-1), -2);
    Due.be("27: last seat", house.about(25), NONE);
    Due.be("27: others", house.about(26), -2);
    Due.be("27: others", house.about(LEAST), -2);
    Due.be("27: others", house.about(MOST), -2);
  }
}
