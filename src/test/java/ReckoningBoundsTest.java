import java.util.Arrays;

/** The document's part III, what would have been: each sentence on both sides of its bounds. */
public final class ReckoningBoundsTest {
  private static final int NONE = SilentHouse.NONE;

  private ReckoningBoundsTest() {
  }

  public static void main(String[] args) {
    withoutCoughsAsSeatsAndStillAre();
    asTheyAreBehindEveryChange();
    asJustThoseOfThemSat();
    causedBelow0Too();
    fairIsTheMeanOverAllOrders();
    fairSharesAddUp();
    fairInLowestTerms();
    quietestOnTheSeatsThatAreTaken();
    quietestByRowAlone();
    quietestOfTheLoudest();
    quietestOfLikeOnes();
    cutTheFewest();
    cutOfLikeOnes();
    stilledTheFewest();
    stilledOfLikeOnes();
    stilledNoneIfNotEvenAllDo();
    seen10AtMost();
    whoSetsOfThoseWhoSit();
    seenOfTheImage();
    anImageIsAllButTapeAndFault();
    backAllIsSoAgain();
    Sentence.everyOneOf("III.");
    Due.end();
  }

  private static void withoutCoughsAsSeatsAndStillAre() {
    Sentence s = Sentence.of("III.", "All that follows is without COUGHS, as SEATS and STILL are.");
    SilentHouse house = new SilentHouse();
    for (int person = 0; person < 2; person++) {
      house.person(0, 8 * person, 10);
      house.seat(person, person);
    }
    house.line(1, 5);
    Houses.law(house, "loud laughing + coughs * 10;");
    s.be("a night has coughs", house.night(), 21);
    int x = house.about(3);
    s.be("wave", house.wave(0, 2), 1);
    s.be("all", house.all(63), 1);
    s.be("caused", house.caused(0), 1);
    s.be("caused by who coughs alone", house.caused(1), 0);
    s.be("fair", house.fair(1, 0), 0);
    s.be("quietest", house.quietest(NONE), 1);
    s.be("cut", house.cut(1), 0);
    s.be("stilled", house.stilled(0), 1);
    house.seen(1);
    s.be("who", house.who(NONE), 2);
    s.be("nothing is drawn", house.about(3), x);
    house.hire(0, true);
    s.be("as STILL are", house.all(63), 0);
    s.be("caused by who is still", house.caused(0), 0);
    s.be("who is still isn't heard", house.who(NONE), 0);
    house.hire(0, false);
    house.seat(0, NONE);
    s.be("as SEATS are", house.all(63), 0);
  }

  private static void now(Sentence s, String when, SilentHouse house, int all, int first) {
    s.be("all " + when, house.all(63), all);
    s.be("ALL then " + when, house.quietest(NONE), all);
    s.be("on seat 0 " + when, house.quietest(0), first);
    s.be("fair of 1 " + when, house.fair(1, 0), house.caused(1));
    s.be("how many sets " + when, house.who(NONE), all == 0 ? 1 : all * 2);
  }

  /** What was asked ahead of a change must not be answered behind it. */
  private static void asTheyAreBehindEveryChange() {
    Sentence s = Sentence.of("III.", "as SEATS and STILL are.");
    SilentHouse house = Houses.people(2);
    house.line(1, 9);
    now(s, "at first", house, 2, 0);
    house.hire(0, true);
    s.be("hired", house.all(63), 1);
    s.be("hired", house.quietest(NONE), 1);
    house.undo();
    now(s, "hired no more", house, 2, 0);
    house.seat(0, NONE);
    now(s, "one is out", house, 1, NONE);
    house.undo();
    now(s, "taken back", house, 2, 0);
    Tape.read(house, "out 0;");
    house.played(0);
    now(s, "played", house, 1, NONE);
    house.image();
    Tape.read(house, "seat 0 at 0;");
    house.played(1);
    now(s, "played", house, 2, 0);
    house.back();
    now(s, "back", house, 1, NONE);
    house.line(1, 9);
    s.be("a line more", house.all(63), 2);
    s.be("a line more", house.quietest(NONE), 2);
    Houses.law(house, "loud 5;");
    s.be("another law", house.all(63), 10);
    s.be("another law", house.quietest(NONE), 10);
    s.be("another law", house.wave(1, 2), 5);
    house.back();
    now(s, "back from a law", house, 1, NONE);
    Houses.law(house, "laughs power > shame; loud power;");
    s.be("of power 9", house.wave(0, 2), 9);
    house.image();
    house.line(0, 3);
    house.person(0, 7, 0);
    house.seat(2, 9);
    s.be("who laughs at power 3", house.wave(1, 0), 2);
    s.be("of power 3", house.wave(1, 2), 3);
    house.back();
    house.line(0, 8);
    house.person(0, 2, 0);
    house.seat(2, 9);
    s.be("who laughs at power 8", house.wave(1, 0), 6);
    s.be("of power 8", house.wave(1, 2), 8);
  }

  private static void asJustThoseOfThemSat() {
    Sentence s = Sentence.of("III.", "ALL of a set of PEOPLE: LOUD of all LINES together, as just those of them sat who sit.");
    SilentHouse house = Houses.people(6);
    house.line(0, 0);
    Houses.law(house, "laughs wit = 0 or near > 0;");
    // Seats 0 1 2 3 of the first row, 4 and 5 below 0 and 1.
    int[] sets = {0, 1, 2, 62, 3, 5, 17, 33, 35, 49, 51, 63, 15, 13};
    int[] due = {0, 1, 0, 0, 2, 1, 2, 1, 3, 3, 4, 6, 4, 1};
    for (int i = 0; i < sets.length; i++) {
      s.be("the set " + sets[i], house.all(sets[i]), due[i]);
    }
    house.seat(1, NONE);
    // Without 1: 0, then 4, then 5; 2 and 3 are cut off.
    s.be("who doesn't sit", house.all(63), 3);
    s.be("who doesn't sit, asked for", house.all(3), 1);
    for (int line = 1; line < 10; line++) {
      house.line(2, 9);
    }
    s.be("ten lines", house.all(63), 30);
    Houses.law(house, "loud 99;");
    s.be("the most", house.all(0), 990);
  }

  private static void causedBelow0Too() {
    Sentence s = Sentence.of("III.", "CAUSED by one: ALL of all who sit less ALL without this one (below 0, too).");
    String[] louds = {"laughing", "0 - laughing", "5", "50 - laughing", "99 * laughing", "99 - 99 * laughing"};
    int[] due = {10, 0, 0, -10, 990, -990};
    for (int i = 0; i < louds.length; i++) {
      SilentHouse house = Houses.tenJokes(1);
      Houses.law(house, "loud " + louds[i] + ";");
      s.be("by " + louds[i], house.caused(0), due[i]);
    }
    SilentHouse house = Houses.people(3);
    house.line(0, 0);
    Houses.law(house, "laughs wit = 0 or near > 0; loud laughing * 7;");
    int[] each = {21, 14, 7};
    for (int person = 0; person < 3; person++) {
      s.be("of a wave, " + person, house.caused(person), each[person]);
      s.be("all less all without", house.caused(person), house.all(63) - house.all(63 & ~(1 << person)));
    }
  }

  /** By how much the sums of sets grow as a person comes in, over all orders of those from fixed on. */
  private static long grownOverOrders(int[] sums, int[] order, int fixed, int person) {
    if (fixed == order.length) {
      int ahead = 0;
      for (int i = 0; order[i] != person; i++) {
        ahead |= 1 << order[i];
      }
      return sums[ahead | 1 << person] - sums[ahead];
    }
    long grown = 0;
    for (int i = fixed; i < order.length; i++) {
      int[] next = order.clone();
      next[fixed] = order[i];
      next[i] = order[fixed];
      grown += grownOverOrders(sums, next, fixed + 1, person);
    }
    return grown;
  }

  private static int[] sitting(SilentHouse house) {
    int[] people = new int[6];
    int many = 0;
    for (int person = 0; person < 6; person++) {
      if (house.of(person, 0) >= 0) {
        people[many] = person;
        many++;
      }
    }
    return Arrays.copyOf(people, many);
  }

  private static long commonDivisor(long one, long other) {
    return other == 0 ? Math.abs(one) : commonDivisor(other, one % other);
  }

  private static void fairIsTheMeanOverAllOrders() {
    Sentence s = Sentence.of("III.", "FAIR: the mean, over all orders of those who sit, of by how much ALL grows as one comes in behind "
        + "those ahead of it, in lowest terms (the lower number above 0).");
    int[] orders = {1, 1, 2, 6, 24, 120, 720};
    String[] laws = {"laughs wit = 0 or near > 0; loud laughing * rounds;", "laughs all >= wit; loud 90 - laughing * laughing;",
      "laughs wit = 2 or all * 2 > wit; loud laughing * 7 / 3;"};
    for (String law : laws) {
      for (int many = 1; many <= 6; many++) {
        SilentHouse house = Houses.people(many);
        house.line(1, 3);
        house.line(2, 8);
        Houses.law(house, law);
        int[] sums = new int[64];
        for (int set = 0; set < 64; set++) {
          sums[set] = house.all(set);
        }
        for (int person = 0; person < many; person++) {
          long grown = grownOverOrders(sums, sitting(house), 0, person);
          long upper = house.fair(person, 0);
          long lower = house.fair(person, 1);
          String what = law + " of " + many + ", " + person;
          s.be(what, upper * orders[many], grown * lower);
          s.be(what + ", in lowest terms", commonDivisor(upper, lower), 1);
          s.be(what + ", above 0", lower > 0, true);
        }
      }
    }
  }

  private static void fairSharesAddUp() {
    Sentence s = Sentence.of("III.", "FAIR: the mean, over all orders of those who sit");
    SilentHouse house = Houses.people(6);
    house.line(1, 3);
    house.line(1, 5);
    Houses.law(house, "laughs wit = 1 or near > 0 or power > 4 and all > 2; loud laughing * laughing + rounds;");
    for (int out = 0; out < 6; out++) {
      long upper = 0;
      for (int person : sitting(house)) {
        upper += 720L / house.fair(person, 1) * house.fair(person, 0);
      }
      s.be("shares of " + (6 - out) + " add up to the bill", upper, 720L * (house.all(63) - house.all(0)));
      house.seat(out, NONE);
    }
  }

  private static void fairInLowestTerms() {
    Sentence s = Sentence.of("III.", "in lowest terms (the lower number above 0).");
    // Two laugh together: 3 grows by half each; six: the sixth part of what comes if all are there.
    String[] laws = {"loud laughing / 2 * 3", "loud 9 - laughing / 2 * 3", "loud laughing / 2 * 4", "loud 5", "loud 0 - 1"};
    int[][] due = {{3, 2}, {-3, 2}, {2, 1}, {0, 1}, {0, 1}};
    for (int i = 0; i < laws.length; i++) {
      SilentHouse house = Houses.people(2);
      house.line(1, 9);
      Houses.law(house, laws[i] + ";");
      s.be("upper by " + laws[i], house.fair(0, 0), due[i][0]);
      s.be("lower by " + laws[i], house.fair(0, 1), due[i][1]);
    }
    for (int loud = 0; loud <= 99; loud++) {
      SilentHouse house = Houses.people(6);
      house.line(1, 9);
      Houses.law(house, "loud laughing / 6 * " + loud + ";");
      int common = loud % 6 == 0 ? 6 : loud % 3 == 0 ? 3 : loud % 2 == 0 ? 2 : 1;
      s.be("upper of " + loud + " by 6", house.fair(3, 0), loud / common);
      s.be("lower of " + loud + " by 6", house.fair(3, 1), 6 / common);
    }
    SilentHouse most = Houses.tenJokes(1);
    Houses.law(most, "loud laughing * 99;");
    s.be("the most", most.fair(0, 0), 990);
    Houses.law(most, "loud 99 - laughing * 99;");
    s.be("the least", most.fair(0, 0), -990);
    s.be("above 0", most.fair(0, 1), 1);
  }

  private static void quietestOnTheSeatsThatAreTaken() {
    Sentence s = Sentence.of("III.", "QUIETEST: those who sit, on the SEATS that are taken now, in the order by which ALL is least");
    SilentHouse house = Houses.people(3);
    house.line(0, 0);
    Houses.law(house, "laughs wit = 0 or near > 0 and wit = 1;");
    // 0 1 2: two laugh; 0 2 1: one does.
    s.be("ALL as it is", house.all(63), 2);
    s.be("ALL then", house.quietest(NONE), 1);
    int[] due = {0, 2, 1, NONE, NONE};
    for (int seat = 0; seat < due.length; seat++) {
      s.be("on " + seat, house.quietest(seat), due[seat]);
    }
    s.be("nobody is moved", house.all(63), 2);
    house.person(0, 0, 0);
    s.be("who doesn't sit isn't", house.quietest(1), 2);
    house.seat(2, NONE);
    s.be("two beside one another, anyhow", house.quietest(NONE), 2);
    s.be("the lowest first", house.quietest(0), 0);
    house.seat(1, 2);
    s.be("two apart", house.quietest(NONE), 1);
    s.be("nobody between them", house.quietest(1), NONE);
    SilentHouse still = Houses.people(3);
    still.line(0, 0);
    Houses.law(still, "laughs wit = 0 or near > 0 and wit = 1;");
    still.hire(0, true);
    s.be("who is still is so on every seat", still.quietest(NONE), 0);
    s.be("the order as it is", still.quietest(1), 1);
  }

  private static void quietestByRowAlone() {
    Sentence s = Sentence.of("III.", "in the order by which ALL is least");
    SilentHouse house = new SilentHouse();
    for (int person = 0; person < 3; person++) {
      house.person(5, 5, 0);
      house.seat(person, 4 * person);
    }
    house.line(0, 0);
    Houses.law(house, "laughs row = 0;");
    s.be("one laughs, whoever it is", house.quietest(NONE), 1);
    s.be("the lowest", house.quietest(0), 0);
    house.hire(2, true);
    s.be("who is still is best in row 0", house.quietest(NONE), 0);
    int[] due = {2, 0, 1};
    for (int row = 0; row < 3; row++) {
      s.be("in row " + row, house.quietest(4 * row), due[row]);
    }
  }

  private static void quietestOfTheLoudest() {
    Sentence s = Sentence.of("III.", "in the order by which ALL is least");
    String[] laws = {"loud 99;", "laughs near > 9 or row > 9; loud 99;"};
    for (String law : laws) {
      SilentHouse house = Houses.tenJokes(3);
      Houses.law(house, law);
      s.be("the loudest that can be", house.quietest(NONE), 990);
      for (int person = 0; person < 3; person++) {
        s.be("all alike", house.quietest(person), person);
      }
    }
  }

  private static void quietestOfLikeOnes() {
    Sentence s = Sentence.of("III.", "of like ones the lowest PERSON for the lowest SEAT first, then for the next, .. .");
    SilentHouse house = new SilentHouse();
    int[] seats = {15, 3, 12, 0, 7, 8};
    int[] sorted = {0, 3, 7, 8, 12, 15};
    for (int person = 0; person < 6; person++) {
      house.person(0, 0, 0);
      house.seat(person, seats[person]);
    }
    house.line(0, 0);
    Houses.law(house, "laughs near + row * 0 > 5;");
    for (int person = 0; person < 6; person++) {
      s.be("all alike, on " + sorted[person], house.quietest(sorted[person]), person);
    }
    SilentHouse last = Houses.people(6);
    last.line(0, 0);
    Houses.law(last, "laughs wit = 0 and row = 0 or wit = 1 and row = 0;");
    // Seats 0 .. 3 in row 0, 4 and 5 in row 1: 0 and 1 must be behind; then 2 3 4 5 0 1.
    s.be("quiet", last.quietest(NONE), 0);
    int[] due = {2, 3, 4, 5, 0, 1};
    for (int seat = 0; seat < 6; seat++) {
      s.be("the first of the quietest, on " + seat, last.quietest(seat), due[seat]);
    }
    Houses.law(last, "laughs wit # 5 - row * 5 and wit # 3;");
    // On row 0 only 5 and 3 don't laugh, on row 1 only 0 and 3: the least is three who laugh.
    s.be("the least", last.quietest(NONE), 3);
    int[] then = {1, 2, 3, 5, 0, 4};
    for (int seat = 0; seat < 6; seat++) {
      s.be("for the next, on " + seat, last.quietest(seat), then[seat]);
    }
  }

  private static void cutTheFewest() {
    Sentence s = Sentence.of("III.", "CUT to a BILL: the fewest LINES without which ALL (of the others) is no more");
    SilentHouse house = new SilentHouse();
    for (int power = 0; power < 10; power++) {
      house.line(0, power);
    }
    Houses.law(house, "loud power * power;");
    // 0 1 4 9 16 25 36 49 64 81: 285 in all.
    int[] bills = {285, 284, 204, 203, 140, 139, 91, 90, 55, 54, 30, 29, 14, 13, 5, 4, 1, 0, 990};
    int[] many = {0, 1, 1, 2, 2, 3, 3, 4, 4, 5, 5, 6, 6, 7, 7, 8, 8, 9, 0};
    for (int i = 0; i < bills.length; i++) {
      int cut = house.cut(bills[i]);
      s.be("how many to " + bills[i], Integer.bitCount(cut), many[i]);
      int left = 0;
      for (int line = 0; line < 10; line++) {
        left += (cut >> line & 1) == 0 ? line * line : 0;
      }
      s.be("no more than " + bills[i], left <= bills[i], true);
    }
    s.be("a line without a sound stays", house.cut(0), 1022);
    SilentHouse fewer = new SilentHouse();
    Houses.law(fewer, "loud power;");
    fewer.line(0, 1);
    fewer.line(0, 1);
    fewer.image();
    fewer.line(0, 9);
    s.be("three lines", fewer.cut(0), 7);
    s.be("the loudest of three", fewer.cut(2), 4);
    fewer.back();
    s.be("two lines again", fewer.cut(0), 3);
    s.be("one of two", fewer.cut(1), 1);
    s.be("nothing is cut from the play", house.about(1), 10);
  }

  private static void cutOfLikeOnes() {
    Sentence s = Sentence.of("III.", "of like ones the lowest set.");
    SilentHouse house = Houses.tenJokes(3);
    // Ten lines of 3: any so many of them do.
    for (int cut = 0; cut <= 10; cut++) {
      s.be("just to " + (30 - 3 * cut), house.cut(30 - 3 * cut), (1 << cut) - 1);
      if (cut < 10) {
        s.be("one below", house.cut(29 - 3 * cut), (2 << cut) - 1);
      }
    }
    SilentHouse mixed = new SilentHouse();
    int[] powers = {1, 5, 1, 5, 5};
    for (int power : powers) {
      mixed.line(0, power);
    }
    Houses.law(mixed, "loud power;");
    // 17 in all: one of 1 to 16, one of 5 to 12 (line 1), 1 and 5 to 11 (0 and 1), two of 5 to 7 (1 and 3), ..
    int[] bills = {17, 16, 15, 12, 11, 10, 7, 6, 5, 2, 1, 0};
    int[] due = {0, 1, 2, 2, 3, 10, 10, 11, 26, 26, 27, 31};
    for (int i = 0; i < bills.length; i++) {
      s.be("to " + bills[i], mixed.cut(bills[i]), due[i]);
    }
  }

  private static void stilledTheFewest() {
    Sentence s = Sentence.of("III.", "STILLED to a BILL: the fewest PEOPLE more of those who sit, who, being STILL, too, make ALL no more");
    SilentHouse house = Houses.people(6);
    house.line(0, 0);
    Houses.law(house, "laughs wit = 0 or near > 0; loud laughing * 10;");
    // 0 1 2 3 side by side, 4 and 5 below 0 and 1: who begins it stills all.
    s.be("none", house.stilled(60), 0);
    s.be("none, highest", house.stilled(990), 0);
    s.be("one", house.stilled(59), 1);
    s.be("who begins it", house.stilled(0), 1);
    house.hire(0, true);
    s.be("none more", house.stilled(0), 0);
    house.hire(0, false);
    house.hire(3, true);
    s.be("as it is with 3 still", house.stilled(50), 0);
    s.be("one more", house.stilled(49), 1);
    house.seat(0, NONE);
    s.be("who doesn't sit needn't be", house.stilled(0), 0);
    s.be("nobody is made still", house.of(1, 1), 0);
    SilentHouse later = Houses.people(6);
    later.seat(3, 15);
    later.seat(4, 8);
    later.seat(5, 9);
    later.line(0, 0);
    Houses.law(later, "laughs wit = 0 or wit = 3 or wit = 4 or near > 0 and wit = 5;");
    // 0, 3, and 4 with 5: by two it is the set 9, by one, who is 4, the set 16.
    s.be("fewer ahead of lower", later.stilled(2), 16);
    SilentHouse each = Houses.tenJokes(3);
    each.person(0, 0, 0);
    each.hire(1, true);
    s.be("two who aren't, to 20", each.stilled(20), 0);
    s.be("two who aren't, to 19", each.stilled(19), 1);
    s.be("two who aren't, to 10", each.stilled(10), 1);
    s.be("two who aren't, to 9", each.stilled(9), 5);
    s.be("two who aren't, to 0", each.stilled(0), 5);
  }

  private static void stilledOfLikeOnes() {
    Sentence s = Sentence.of("III.", "of like ones the lowest set; none, if not even all do.");
    SilentHouse house = new SilentHouse();
    int[] shames = {9, 3, 9, 3, 9, 3};
    for (int person = 0; person < 6; person++) {
      house.person(0, shames[person], 0);
      house.seat(person, person);
    }
    house.line(1, 5);
    int[] due = {42, 10, 2, 0};
    for (int bill = 0; bill < 4; bill++) {
      s.be("to " + bill, house.stilled(bill), due[bill]);
    }
    SilentHouse cross = Houses.people(4);
    cross.line(0, 0);
    Houses.law(cross, "laughs wit < 2 or near > 0;");
    // Seats 0 1 2 3: 0 and 1 begin; without 1 the others hear nothing.
    s.be("either of two to 3", cross.stilled(3), 1);
    s.be("one alone to 1", cross.stilled(1), 2);
    s.be("both to 0", cross.stilled(0), 3);
  }

  private static void stilledNoneIfNotEvenAllDo() {
    Sentence s = Sentence.of("III.", "none, if not even all do.");
    for (int many = 0; many <= 6; many++) {
      SilentHouse house = Houses.tenJokes(many);
      Houses.law(house, "loud 4 + laughing;");
      s.be("all of " + many + " do", house.stilled(40), (1 << many) - 1);
      s.be("not even all of " + many, house.stilled(39), NONE);
      s.be("none more of " + many, house.stilled(40 + 10 * many), 0);
    }
    SilentHouse still = Houses.tenJokes(2);
    Houses.law(still, "loud 4 + laughing;");
    still.hire(0, true);
    still.hire(1, true);
    s.be("all are still already, and that does", still.stilled(40), 0);
    s.be("all are still already, and that doesn't", still.stilled(39), NONE);
    SilentHouse louder = Houses.tenJokes(3);
    Houses.law(louder, "loud 9 - laughing;");
    // The more are still the louder it is: none more is the fewest where it does, else no set does.
    s.be("as it is", louder.stilled(60), 0);
    s.be("no set of them", louder.stilled(59), NONE);
  }

  private static void seen10AtMost() {
    Sentence s = Sentence.of("III.", "WHO: SEEN (10 at most; told): LOUD of LINE 0, 1, ..");
    SilentHouse house = Houses.people(2);
    for (int line = 0; line < 10; line++) {
      house.line(1, line < 5 ? 1 : 9);
    }
    // 0 laughs at the lines from power 1, 1 from power 2: lines 0 .. 4 are 1 for both, 5 .. 9 are 2.
    for (int line = 0; line < 10; line++) {
      s.be("the next", house.seen(line < 5 ? 1 : 2), line + 1);
      s.be("who fits so far", house.who(NONE), line < 5 ? 2 : 1);
    }
    s.be("both", house.who(0), 3);
    s.be("an eleventh", house.seen(2), -2);
    s.be("ten stay", house.about(7), 10);
    house.seen(NONE);
    for (int line = 0; line < 9; line++) {
      house.seen(line < 5 ? 1 : 2);
    }
    s.be("the tenth is another", house.seen(1), 10);
    s.be("nobody", house.who(NONE), 0);
  }

  private static void whoSetsOfThoseWhoSit() {
    Sentence s = Sentence.of("III.", "sets (bits) of those who sit (none, too) of which each LINE that was SEEN would be so, the others not "
        + "being there: how many, the i-th by number.");
    SilentHouse house = Houses.people(4);
    house.line(0, 0);
    Houses.law(house, "laughs wit = 0 or near > 0;");
    house.seen(0);
    // Whoever, but 0: the empty set is the first.
    s.be("without 0", house.who(NONE), 8);
    for (int i = 0; i < 8; i++) {
      s.be("the " + i, house.who(i), 2 * i);
    }
    s.be("the ninth", house.who(8), NONE);
    house.seen(NONE);
    house.seen(2);
    s.be("0 and 1, with or without 3", house.who(NONE), 2);
    s.be("the first", house.who(0), 3);
    s.be("the second", house.who(1), 11);
    s.be("the third", house.who(2), NONE);
    house.hire(0, true);
    s.be("none can be", house.who(NONE), 0);
    s.be("not even the empty set", house.who(0), NONE);
    house.seen(NONE);
    house.seen(0);
    s.be("who is still can have been there", house.who(NONE), 16);
    for (int person = 0; person < 4; person++) {
      house.seat(person, NONE);
    }
    s.be("nobody sits: the empty set", house.who(NONE), 1);
    s.be("which is 0", house.who(0), 0);
    house.seen(NONE);
    house.seen(1);
    s.be("nobody sits, and it was loud", house.who(NONE), 0);
  }

  private static void seenOfTheImage() {
    Sentence s = Sentence.of("III.", "WHO: SEEN (10 at most; told)");
    SilentHouse house = Houses.tenJokes(3);
    house.seen(3);
    house.image();
    house.seen(NONE);
    house.seen(1);
    s.be("one of three", house.who(NONE), 3);
    house.back();
    s.be("all three again", house.who(NONE), 1);
    s.be("one line", house.about(7), 1);
  }

  private static void anImageIsAllButTapeAndFault() {
    Sentence s = Sentence.of("III.", "AN IMAGE: all as it is, but the tape and the latest FAULT.");
    SilentHouse house = new SilentHouse();
    Houses.some(house);
    house.image();
    s.be("the tape stays at image", house.about(8), 7);
    house.end(3);
    house.back();
    s.be("the tape stays at back", house.about(8), 3);
    Tape.read(house, "loud 10000;");
    house.image();
    Tape.put(house, "night;");
    house.text();
    s.be("no fault now", house.fault(0), 0);
    house.back();
    s.be("the latest fault stays at back", house.fault(0), 0);
    s.be("the text is gone", house.about(4), 1);
    Tape.put(house, "loud 7;" + " ".repeat(293));
    house.back();
    s.be("a full tape stays", house.about(8), 300);
    s.be("and is what it was", house.text(), 1);
  }

  private static void backAllIsSoAgain() {
    Sentence s = Sentence.of("III.", "BACK: all is so again.");
    s.leaves("image, much, back", house -> {
      Houses.some(house);
      house.image();
    }, ReckoningBoundsTest::muchAndBack);
    s.leaves("image of a full house, much, back", house -> {
      Houses.full(house);
      house.image();
    }, ReckoningBoundsTest::muchAndBack);
    SilentHouse house = new SilentHouse();
    Houses.full(house);
    house.image();
    s.be("nights", house.back(), 6);
    s.be("steps", house.about(6), 30);
    s.be("seen", house.about(7), 10);
    s.be("the text", house.about(5), 3);
    s.be("texts", house.about(4), 4);
  }

  /** Changes whatever can be changed but tape and fault, and goes back. */
  private static long muchAndBack(SilentHouse house) {
    house.seen(NONE);
    house.by(NONE);
    house.person(1, 1, 1);
    house.line(2, 2);
    house.seed(1234);
    for (int turn = 0; turn < 40; turn++) {
      house.seat(turn % 6, turn % 2 == 0 ? NONE : turn % 16);
      house.hire(turn % 6, turn % 4 == 0);
    }
    house.night();
    house.quietest(NONE);
    house.all(63);
    for (int i = 0; i < 11; i++) {
      house.undo();
    }
    house.seen(0);
    return house.back();
  }
}
