/** Houses to begin with: calls that make one of a new object. */
final class Houses {
  private Houses() {
  }

  static void fresh(SilentHouse house) {
  }

  /** Three people, two of them on seats, three lines, one text, which rules; a fault, and a tape. */
  static void some(SilentHouse house) {
    house.person(1, 0, 3);
    house.person(2, 4, 10);
    house.person(3, 6, 0);
    house.line(1, 5);
    house.line(0, 2);
    house.line(1, 9);
    law(house, "laughs power > shame or near > 0; loud laughing * 3 + rounds + coughs; dues often + bill; night; hire 0; out 0;");
    house.seat(0, 0);
    house.seat(1, 1);
    house.seed(5);
    house.night();
    house.seen(4);
    house.image();
    house.hire(1, true);
    house.night();
    Tape.read(house, "dues foo;");
    Tape.put(house, "loud 7;");
  }

  /** As many people, lines, texts, steps, lines that were seen and bytes as there can be. */
  static void full(SilentHouse house) {
    for (int person = 0; person < 6; person++) {
      house.person(person, 9 - person, 2 * person);
    }
    for (int line = 0; line < 10; line++) {
      house.line(line % 4 == 3 ? 2 : 1, line);
    }
    Tape.read(house, "laughs power > shame or near > 0 and wit > row;");
    Tape.read(house, "");
    house.image();
    Tape.read(house, "loud laughing * 9 + coughs; dues bill / people + row;");
    law(house, "laughs all + power > shame + row; loud laughing * 4 + rounds; seat 0 at 3; night; hire 5; out 1;");
    steps(house);
    for (int line = 0; line < 10; line++) {
      house.seen(line * 3);
    }
    Tape.put(house, "loud 7;" + " ".repeat(293));
  }

  /** More than can be taken back, of every kind. */
  private static void steps(SilentHouse house) {
    for (int person = 0; person < 6; person++) {
      house.seat(person, 2 * person);
    }
    for (int turn = 0; turn < 6; turn++) {
      house.seat(turn, 2 * turn + 1);
      house.hire(turn, true);
      house.night();
      house.hire(turn, turn % 3 == 1);
      house.seat(turn, SilentHouse.NONE);
      house.seat(turn, 15 - turn);
    }
  }

  /** One on a seat, wit 3, shame 4, no cold, row 2; a sorrow of power 6. */
  static SilentHouse one() {
    SilentHouse house = new SilentHouse();
    house.person(3, 4, 0);
    house.seat(0, 9);
    house.line(2, 6);
    return house;
  }

  /** So many people of shame 0, 1, .. without colds, on seats 0, 1, .. . */
  static SilentHouse people(int many) {
    SilentHouse house = new SilentHouse();
    for (int person = 0; person < many; person++) {
      house.person(person, person, 0);
      house.seat(person, person);
    }
    return house;
  }

  /** So many people as people has them, and as many jokes of power 9 as there can be. */
  static SilentHouse tenJokes(int many) {
    SilentHouse house = people(many);
    for (int line = 0; line < 10; line++) {
      house.line(1, 9);
    }
    return house;
  }

  static void law(SilentHouse house, String text) {
    int number = Tape.read(house, text);
    Due.be("reading: " + text, number >= 0, true);
    Due.be("ruling: " + text, house.by(number), true);
  }
}
