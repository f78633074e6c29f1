/** The document's part I, "Terms": each sentence on both sides of its bounds. */
public final class TermsBoundsTest {
  private static final int NONE = SilentHouse.NONE;

  private TermsBoundsTest() {
  }

  public static void main(String[] args) {
    atMost512Calls();
    noneIsMinus1();
    seats0To15();
    people0To5();
    nearIsOneOff();
    lines0To9();
    xAtFirst17();
    firstThoseLaughWhoArentStill();
    withoutSort1AndPowerAboveShame();
    nearIsHowManyLaughOnSeatsNear();
    allIsHowManyLaughInAll();
    asLongAsThereAreAny();
    roundsInWhichSomebodyCame();
    loud0AtLeast99AtMost();
    loudWithoutALaw();
    aDrawBelowCold();
    xBehindEachDraw();
    lineByLinePersonByPerson();
    billOfAllLines();
    dues0AtLeast999AtMost();
    duesWithoutALaw();
    namesOfDuesAtTheirMost();
    nightsAreCounted();
    stepsOfEveryKind();
    theLatest30();
    theOldestOfThirty();
    asAheadOfIt();
    whatWasToldSinceStays();
    Sentence.everyOneOf("Terms");
    Due.end();
  }

  private static void atMost512Calls() {
    Sentence s = Sentence.of("What it is", "An object is used for at most 512 calls after it has been made");
    SilentHouse house = Houses.people(1);
    for (int call = 3; call < 512; call++) {
      house.night();
    }
    s.be("the 512th call", house.about(2), 509);
    SilentHouse reads = new SilentHouse();
    for (int call = 1; call < 512; call += 3) {
      reads.feed(0x6c6f7564, 0x20312b31, 0x2b312b31, 0x2b312b31, 0x2b312b31);
      reads.text();
      s.be("a fault as at the first, call " + call, reads.fault(1), 20);
    }
  }

  private static void noneIsMinus1() {
    Sentence s = Sentence.of("The constants", "`NONE = -1`: None.");
    s.be("NONE", SilentHouse.NONE, -1);
  }

  private static void seats0To15() {
    Sentence s = Sentence.of("Terms", "SEATS 0 .. 15 (s = 4 row + place; rows 0 .. 3, places 0 .. 3).");
    for (int seat = 0; seat < 16; seat++) {
      SilentHouse house = new SilentHouse();
      house.person(0, 0, 0);
      house.line(0, 0);
      s.be("seat " + seat, house.seat(0, seat), true);
      Houses.law(house, "laughs row = " + seat / 4 + "; dues row;");
      s.be("its row in laughs", house.wave(0, 0), 1);
      house.night();
      s.be("its row in dues", house.of(0, 2), seat / 4);
    }
    int[] others = {-2, 16, 19, Integer.MIN_VALUE, Integer.MAX_VALUE};
    for (int seat : others) {
      s.refuses("seat " + seat, Houses::some, h -> Call.told(h.seat(2, seat)), 0);
    }
  }

  private static void people0To5() {
    Sentence s = Sentence.of("Terms", "PEOPLE 0 .. 5 (told one by one): WIT, SHAME (0 .. 9 each), COLD (0 .. 10), on a SEAT or not "
        + "(NONE: at first), STILL or not (at first not), PAID (at first 0).");
    SilentHouse house = new SilentHouse();
    int[][] edges = {{0, 0, 0}, {9, 0, 0}, {0, 9, 0}, {0, 0, 10}, {9, 9, 10}, {0, 0, 0}};
    for (int p = 0; p < 6; p++) {
      s.be("not told yet", house.of(p, 0), -2);
      s.be("told", house.person(edges[p][0], edges[p][1], edges[p][2]), p);
      int[] due = {NONE, 0, 0, edges[p][0], edges[p][1], edges[p][2]};
      for (int what = 0; what < 6; what++) {
        s.be("at first, " + what, house.of(p, what), due[what]);
      }
    }
    s.be("no more", house.person(0, 0, 0), NONE);
    s.refuses("wit 10", Houses::some, h -> h.person(10, 9, 10), NONE);
    s.refuses("shame 10", Houses::some, h -> h.person(9, 10, 10), NONE);
    s.refuses("cold 11", Houses::some, h -> h.person(9, 9, 11), NONE);
  }

  private static void nearIsOneOff() {
    Sentence s = Sentence.of("Terms", "NEAR: SEATS whose row or place is one off, the other the same.");
    for (int one = 0; one < 16; one++) {
      for (int other = 0; other < 16; other++) {
        if (one != other) {
          int apart = Math.abs(one / 4 - other / 4) + Math.abs(one % 4 - other % 4);
          s.be(one + " and " + other, areNear(one, other), apart == 1);
        }
      }
    }
    s.be("the end of a row and the next one's beginning", areNear(3, 4), false);
    s.be("the same row's ends", areNear(0, 3), false);
    s.be("the first row and the last", areNear(0, 12), false);
    s.be("one off in both", areNear(0, 5), false);
    s.be("two off", areNear(5, 7), false);
    s.be("row one off", areNear(11, 15), true);
    s.be("place one off", areNear(14, 15), true);
  }

  private static boolean areNear(int one, int other) {
    SilentHouse house = new SilentHouse();
    house.person(0, 0, 0);
    house.person(1, 0, 0);
    house.line(0, 0);
    house.seat(0, one);
    house.seat(1, other);
    Houses.law(house, "laughs wit = 0 or near = 1;");
    return house.wave(0, 0) == 3;
  }

  private static void lines0To9() {
    Sentence s = Sentence.of("Terms",
        "LINES 0 .. 9 (told one by one): SORT (0 a pause, 1 a joke, 2 a sorrow), POWER (0 .. 9).");
    int[][] edges = {{0, 0}, {2, 0}, {0, 9}, {2, 9}, {1, 0}, {1, 9}, {0, 1}, {2, 8}, {1, 1}, {1, 8}};
    SilentHouse house = new SilentHouse();
    for (int line = 0; line < 10; line++) {
      s.be("not told yet", house.wave(line, 3), NONE);
      s.be("told", house.line(edges[line][0], edges[line][1]), line);
    }
    for (int line = 0; line < 10; line++) {
      s.be("sort", house.wave(line, 3), edges[line][0]);
      s.be("power", house.wave(line, 4), edges[line][1]);
    }
    s.be("no more", house.line(0, 0), NONE);
    s.refuses("sort 3", Houses::some, h -> h.line(3, 9), NONE);
    s.refuses("power 10", Houses::some, h -> h.line(2, 10), NONE);
  }

  private static void xAtFirst17() {
    Sentence s = Sentence.of("Terms", "X: at first 17.");
    SilentHouse house = new SilentHouse();
    s.be("at first", house.about(3), 17);
    house.person(0, 0, 7);
    house.line(0, 0);
    house.seat(0, 0);
    s.be("7 isn't below 7", house.night(), 0);
    house.back();
    house.person(0, 0, 8);
    house.line(0, 0);
    house.seat(0, 0);
    s.be("7 is below 8", house.night(), 1);
  }

  private static void firstThoseLaughWhoArentStill() {
    Sentence s = Sentence.of("Terms", "first those laugh who aren't STILL and for whom laughs is so with near and all 0");
    SilentHouse house = Houses.people(6);
    house.line(1, 9);
    Houses.law(house, "laughs near = 0 and all = 0;");
    s.be("with near and all 0", house.wave(0, 0), 63);
    s.be("all in one round", house.wave(0, 1), 1);
    for (int person = 0; person < 6; person++) {
      house.hire(person, true);
      s.be("who is still doesn't", house.wave(0, 0), 63 & ~((2 << person) - 1));
    }
    s.be("all are still", house.wave(0, 1), 0);
    s.be("all are still", house.wave(0, 2), 0);
    house.hire(5, false);
    s.be("one isn't any more", house.wave(0, 0), 32);
    Houses.law(house, "laughs all > 0;");
    s.be("nobody begins", house.wave(0, 0), 0);
  }

  private static void withoutSort1AndPowerAboveShame() {
    Sentence s = Sentence.of("Terms", "(without: SORT 1, and POWER above SHAME)");
    for (int shame = 0; shame < 10; shame++) {
      SilentHouse house = new SilentHouse();
      house.person(9, shame, 10);
      house.seat(0, 0);
      for (int power = 0; power < 10; power++) {
        house.line(1, power);
        s.be("shame " + shame + ", power " + power, house.wave(power, 0), power > shame ? 1 : 0);
        s.be("rounds", house.wave(power, 1), power > shame ? 1 : 0);
      }
    }
    SilentHouse house = Houses.people(1);
    house.line(0, 9);
    house.line(2, 9);
    house.line(1, 9);
    s.be("a pause", house.wave(0, 0), 0);
    s.be("a sorrow", house.wave(1, 0), 0);
    s.be("a joke", house.wave(2, 0), 1);
    Houses.law(house, "loud 5; dues 3;");
    s.be("a text without laughs", house.wave(2, 0), 1);
    s.be("a text without laughs", house.wave(1, 0), 0);
  }

  /** So many around seat 5, who laugh at once as one far away does; one on seat 5. */
  private static SilentHouse around(int many) {
    int[] seats = {1, 4, 6, 9};
    SilentHouse house = new SilentHouse();
    for (int person = 0; person < 6; person++) {
      house.person(person == 4 ? 9 : 1, 0, 0);
    }
    for (int person = 0; person < many; person++) {
      house.seat(person, seats[person]);
    }
    house.seat(4, 5);
    house.seat(5, 15);
    house.line(0, 0);
    return house;
  }

  private static void nearIsHowManyLaughOnSeatsNear() {
    Sentence s = Sentence.of("Terms", "near (how many laugh on SEATS NEAR)");
    for (int many = 0; many <= 4; many++) {
      for (int near = 0; near <= 5; near++) {
        SilentHouse house = around(many);
        Houses.law(house, "laughs wit < 9 or all > 0 and near = " + near + ";");
        s.be(many + " near, is it " + near, (house.wave(0, 0) & 16) != 0, many == near);
        s.be("rounds", house.wave(0, 1), many == near ? 2 : 1);
      }
    }
    SilentHouse still = around(4);
    still.hire(2, true);
    Houses.law(still, "laughs wit < 9 or near = 3;");
    s.be("who is near and doesn't laugh isn't counted", still.wave(0, 0), 1 + 2 + 8 + 16 + 32);
  }

  private static void allIsHowManyLaughInAll() {
    Sentence s = Sentence.of("Terms", "all (how many laugh in all)");
    for (int many = 0; many <= 4; many++) {
      for (int all = 1; all <= 6; all++) {
        SilentHouse house = around(many);
        Houses.law(house, "laughs wit < 9 or all = " + all + ";");
        s.be(many + " and one laugh, is it " + all, (house.wave(0, 0) & 16) != 0, many + 1 == all);
      }
    }
  }

  private static void asLongAsThereAreAny() {
    Sentence s = Sentence.of("Terms", "as they are behind the round ahead, as long as there are any.");
    SilentHouse house = Houses.people(6);
    house.line(0, 0);
    Houses.law(house, "laughs wit = all;");
    s.be("one by one to the last", house.wave(0, 0), 63);
    s.be("six rounds", house.wave(0, 1), 6);
    house.seat(3, NONE);
    s.be("the next is not there", house.wave(0, 0), 7);
    s.be("three rounds", house.wave(0, 1), 3);
    house.seat(0, NONE);
    s.be("the first is not there", house.wave(0, 0), 0);
    s.be("no round", house.wave(0, 1), 0);
    SilentHouse two = Houses.people(2);
    two.line(0, 0);
    Houses.law(two, "laughs wit = 0 and all = 0 or wit = 1 and all = 0 and near = 1;");
    s.be("near and all are of one round", two.wave(0, 0), 1);
    Houses.law(two, "laughs wit = 0 or all = 1 and near = 1;");
    s.be("behind the round ahead", two.wave(0, 0), 3);
  }

  private static void roundsInWhichSomebodyCame() {
    Sentence s = Sentence.of("Terms", "ROUNDS: how many there were in which somebody came to laugh.");
    SilentHouse house = new SilentHouse();
    house.line(1, 9);
    s.be("nobody sits", house.wave(0, 1), 0);
    for (int person = 0; person < 6; person++) {
      house.person(person, 0, 0);
      house.seat(person, person);
    }
    s.be("all at once", house.wave(0, 1), 1);
    Houses.law(house, "laughs wit / 2 <= all;");
    // First 0 and 1, then 2 .. 5.
    s.be("two rounds", house.wave(0, 1), 2);
    Houses.law(house, "laughs wit <= all; loud rounds;");
    s.be("the most", house.wave(0, 1), 6);
    s.be("in loud", house.wave(0, 2), 6);
    Houses.law(house, "laughs 1 > 2; loud rounds + 7;");
    s.be("none", house.wave(0, 1), 0);
    s.be("none in loud", house.wave(0, 2), 7);
  }

  private static void loud0AtLeast99AtMost() {
    Sentence s = Sentence.of("Terms", "LOUD of a LINE: loud (0 at least, 99 at most; without: how many laugh and COUGHS together).");
    String[] sums = {"0 - 1000 * 1000", "0 - 2", "0 - 1", "0", "1", "98", "99", "100", "101", "9999", "1000 * 1000"};
    int[] due = {0, 0, 0, 0, 1, 98, 99, 99, 99, 99, 99};
    for (int i = 0; i < sums.length; i++) {
      SilentHouse house = Houses.one();
      Houses.law(house, "loud " + sums[i] + ";");
      s.be("wave by " + sums[i], house.wave(0, 2), due[i]);
      s.be("all by " + sums[i], house.all(63), due[i]);
      s.be("night by " + sums[i], house.night(), due[i]);
      s.be("quietest by " + sums[i], house.quietest(NONE), due[i]);
      house.seen(due[i]);
      s.be("who by " + sums[i], house.who(NONE), 2);
    }
    SilentHouse house = new SilentHouse();
    house.person(0, 0, 10);
    house.seat(0, 0);
    house.line(0, 0);
    Houses.law(house, "loud 99 * coughs;");
    s.be("with a cough, just 99", house.night(), 99);
    Houses.law(house, "loud 100 * coughs;");
    s.be("with a cough, one more", house.night(), 99);
    Houses.law(house, "loud 0 - coughs;");
    s.be("with a cough, below", house.night(), 0);
  }

  private static void loudWithoutALaw() {
    Sentence s = Sentence.of("Terms", "without: how many laugh and COUGHS together");
    SilentHouse house = new SilentHouse();
    for (int person = 0; person < 6; person++) {
      house.person(0, 0, 10);
      house.seat(person, person);
    }
    house.line(1, 1);
    house.line(0, 0);
    s.be("six laugh", house.wave(0, 2), 6);
    s.be("nobody laughs", house.wave(1, 2), 0);
    s.be("six laugh and twice six cough", house.night(), 18);
    Houses.law(house, "laughs 1 > 2;");
    s.be("twice six cough", house.night(), 12);
  }

  private static void aDrawBelowCold() {
    Sentence s = Sentence.of("Terms", "X mod 10 below COLD: a COUGH");
    for (int seed = 0; seed < 10; seed++) {
      int x = seed * 3 + 17;
      for (int cold = 0; cold <= 10; cold++) {
        SilentHouse house = new SilentHouse();
        house.person(0, 0, cold);
        house.seat(0, 0);
        house.line(0, 0);
        house.seed(seed);
        s.be("X " + x + ", cold " + cold, house.night(), x % 10 < cold ? 1 : 0);
      }
    }
  }

  private static void xBehindEachDraw() {
    Sentence s = Sentence.of("Terms", "X is (X * 227 + 61) mod 30119 behind each.");
    int[] seeds = {0, 1, 38, 39, 9998, 9999};
    for (int seed : seeds) {
      SilentHouse house = Houses.one();
      house.seed(seed);
      house.night();
      s.be("behind " + (seed * 3 + 17), house.about(3), ((seed * 3 + 17) * 227 + 61) % 30119);
    }
    SilentHouse house = new SilentHouse();
    house.person(0, 0, 1);
    house.seat(0, 0);
    house.line(0, 0);
    house.seed(9857);
    // 29588 * 227 + 61 = 223 * 30119
    s.be("8 isn't below 1", house.night(), 0);
    s.be("29588 comes round to 0", house.about(3), 0);
    s.be("0 is below 1", house.night(), 1);
    s.be("behind 0", house.about(3), 61);
    s.be("1 isn't below 1", house.night(), 0);
    s.be("behind 61", house.about(3), 13908);
  }

  private static void lineByLinePersonByPerson() {
    Sentence s = Sentence.of("Terms",
        "A NIGHT: LINE by LINE: it is heard by all on SEATS; then PERSON by PERSON by number, who sits: a draw:");
    SilentHouse house = new SilentHouse();
    house.person(0, 0, 7);
    house.person(0, 0, 10);
    house.person(0, 0, 4);
    house.line(0, 1);
    house.line(0, 9);
    house.seat(0, 15);
    house.seat(2, 0);
    Houses.law(house, "loud coughs * power; dues coughed;");
    // X 17, 3920, 16450, 29574: at line 0 person 0 by 7 (no), 2 by 0 (yes); at line 1 0 by 0 (yes), 2 by 4 (no).
    s.be("the bill", house.night(), 1 + 9);
    s.be("X behind four draws", house.about(3), 26941);
    s.be("0 coughed once", house.of(0, 2), 1);
    s.be("2 coughed once", house.of(2, 2), 1);
    s.be("1 doesn't sit", house.of(1, 2), 0);
    house.seat(2, NONE);
    house.seat(0, NONE);
    house.seat(1, 3);
    house.hire(1, true);
    s.be("who is still coughs", house.night(), 1 + 9);
    s.be("two draws", house.about(3), 11749);
    SilentHouse most = Houses.tenJokes(6);
    most.night();
    int x = 17;
    for (int draw = 0; draw < 60; draw++) {
      x = (x * 227 + 61) % 30119;
    }
    s.be("sixty draws", most.about(3), x);
  }

  private static void billOfAllLines() {
    Sentence s = Sentence.of("Terms", "Its BILL: LOUD of all LINES together.");
    SilentHouse house = Houses.people(1);
    Houses.law(house, "loud power * 11;");
    s.be("no lines", house.night(), 0);
    int bill = 0;
    for (int line = 0; line < 10; line++) {
      house.line(0, 9 - line);
      bill += (9 - line) * 11;
      s.be("lines " + (line + 1), house.night(), bill);
    }
    Houses.law(house, "loud 99;");
    s.be("the most", house.night(), 990);
  }

  private static void dues0AtLeast999AtMost() {
    Sentence s = Sentence.of("Terms",
        "Then each who sits has PAID dues more (0 at least, 999 at most; without: the BILL by how many sit, cut).");
    String[] sums = {"0 - 1000 * 1000", "0 - 1", "0", "1", "998", "999", "1000", "9999", "1000 * 1000"};
    int[] due = {0, 0, 0, 1, 998, 999, 999, 999, 999};
    for (int i = 0; i < sums.length; i++) {
      SilentHouse house = Houses.people(2);
      house.seat(1, NONE);
      Houses.law(house, "dues " + sums[i] + ";");
      house.night();
      s.be("by " + sums[i], house.of(0, 2), due[i]);
      house.night();
      s.be("twice by " + sums[i], house.of(0, 2), 2 * due[i]);
      s.be("who doesn't sit", house.of(1, 2), 0);
    }
    SilentHouse house = Houses.people(1);
    Houses.law(house, "dues 999;");
    for (int night = 1; night <= 200; night++) {
      house.night();
    }
    s.be("PAID has no most", house.of(0, 2), 200 * 999);
  }

  private static void duesWithoutALaw() {
    Sentence s = Sentence.of("Terms", "without: the BILL by how many sit, cut");
    int[] bills = {0, 1, 5, 6, 7, 11, 12, 98, 99};
    for (int many = 1; many <= 6; many++) {
      for (int bill : bills) {
        SilentHouse house = Houses.people(many);
        house.person(0, 0, 0);
        house.line(0, 0);
        Houses.law(house, "loud " + bill + ";");
        s.be("the bill", house.night(), bill);
        for (int person = 0; person < many; person++) {
          s.be(bill + " by " + many, house.of(person, 2), bill / many);
        }
      }
    }
  }

  private static void namesOfDuesAtTheirMost() {
    Sentence s = Sentence.of("Terms", "has PAID dues more");
    SilentHouse house = new SilentHouse();
    for (int person = 0; person < 6; person++) {
      house.person(9, 0, person < 5 ? 10 : 0);
      house.seat(person, 10 + person);
    }
    for (int line = 0; line < 10; line++) {
      house.line(1, 9);
    }
    Houses.law(house, "loud 99; dues bill - 980 + people * 100 + often + coughed;");
    s.be("the bill", house.night(), 990);
    s.be("often 10, coughed 10, of six", house.of(0, 2), 10 + 600 + 10 + 10);
    s.be("often 10, coughed never", house.of(5, 2), 10 + 600 + 10);
    house.hire(0, true);
    house.night();
    s.be("often never, coughed 10", house.of(0, 2), 630 + 620);
  }

  private static void nightsAreCounted() {
    Sentence s = Sentence.of("Terms", "NIGHTS are counted.");
    SilentHouse house = Houses.people(1);
    s.be("none", house.about(2), 0);
    for (int night = 1; night <= 35; night++) {
      house.night();
      s.be("so many", house.about(2), night);
    }
    for (int left = 34; left >= 5; left--) {
      house.undo();
      s.be("taken back", house.about(2), left);
    }
    s.be("no more can be", house.undo(), NONE);
    s.be("the oldest stay", house.about(2), 5);
    house.seat(0, NONE);
    house.night();
    s.be("a night of nobody isn't", house.about(2), 5);
  }

  private static void stepsOfEveryKind() {
    Sentence s = Sentence.of("Terms", "STEPS: SEATED (a free SEAT, or none), hired (STILL, or not any more), a NIGHT:");
    SilentHouse house = new SilentHouse();
    house.person(0, 0, 0);
    Call[] steps = {h -> Call.told(h.seat(0, 3)), h -> Call.told(h.seat(0, 4)), h -> Call.told(h.seat(0, NONE)),
      h -> Call.told(h.hire(0, true)), h -> Call.told(h.hire(0, false)), h -> Call.told(h.seat(0, 5)), SilentHouse::night};
    for (int step = 0; step < steps.length; step++) {
      steps[step].on(house);
      s.be("a step", house.about(6), step + 1);
    }
    Call[] others = {h -> h.person(1, 1, 1), h -> h.line(1, 1), h -> Call.told(h.seed(3)), h -> h.feed(0, 0, 0, 0, 0), h -> h.end(0),
      SilentHouse::text, h -> Call.told(h.by(0)), h -> h.seen(0), SilentHouse::image, SilentHouse::back, h -> h.played(0),
      h -> h.quietest(NONE)};
    for (Call other : others) {
      other.on(house);
      s.be("no step", house.about(6), steps.length);
    }
    Tape.read(house, "loud 1; hire 0; night; out 0;");
    s.be("by a text", house.played(1), NONE);
    s.be("each of its clauses is one", house.about(6), steps.length + 3);
  }

  /** The seat that the move of this number leads to. */
  private static int seatOf(int move) {
    return move < 0 ? NONE : move * 7 % 16;
  }

  private static void theLatest30() {
    Sentence s = Sentence.of("Terms", "the latest 30 can be taken back, the latest first");
    int[] many = {0, 1, 2, 29, 30, 31, 32, 59, 60, 61, 90, 91, 200};
    for (int moves : many) {
      SilentHouse house = new SilentHouse();
      house.person(0, 0, 0);
      for (int move = 0; move < moves; move++) {
        house.seat(0, seatOf(move));
      }
      int kept = Math.min(30, moves);
      s.be("can be, of " + moves, house.about(6), kept);
      for (int back = 1; back <= kept; back++) {
        s.be("left, of " + moves, house.undo(), kept - back);
        s.be("seat " + back + " back, of " + moves, house.of(0, 0), seatOf(moves - 1 - back));
      }
      s.be("no more, of " + moves, house.undo(), NONE);
      s.be("there it stays, of " + moves, house.of(0, 0), seatOf(moves - 1 - kept));
    }
    SilentHouse house = new SilentHouse();
    house.person(0, 0, 0);
    int[] turns = {40, -10, 15, -30, 3, -3};
    int[] due = {30, 20, 30, 0, 3, 0};
    for (int turn = 0; turn < turns.length; turn++) {
      for (int i = 0; i < Math.abs(turns[turn]); i++) {
        if (turns[turn] < 0) {
          house.undo();
        } else {
          house.seat(0, house.of(0, 0) == 8 ? 9 : 8);
        }
      }
      s.be("to and fro, turn " + turn, house.about(6), due[turn]);
    }
  }

  private static void theOldestOfThirty() {
    Sentence s = Sentence.of("Terms", "the latest 30 can be taken back");
    int[] whats = {1, 2, 0};
    Call[] oldest = {h -> Call.told(h.hire(1, true)), SilentHouse::night, h -> Call.told(h.seat(1, 15))};
    int[] ahead = {0, 0, 14};
    int[] behind = {1, 5, 15};
    for (int kind = 0; kind < oldest.length; kind++) {
      for (int more = 28; more <= 31; more++) {
        SilentHouse house = Houses.people(1);
        house.person(1, 1, 1);
        house.seat(1, 14);
        Houses.law(house, "dues 5;");
        oldest[kind].on(house);
        for (int move = 0; move < more; move++) {
          house.seat(0, move % 2 == 0 ? 2 : 3);
        }
        for (int back = 0; back < 30; back++) {
          house.undo();
        }
        s.be("kind " + kind + " with " + more + " behind it", house.of(1, whats[kind]), oldestDue(more, ahead[kind], behind[kind], kind));
      }
    }
  }

  /** With 28 behind it the step ahead, person 1 being seated, is taken back, too. */
  private static int oldestDue(int more, int ahead, int behind, int kind) {
    if (more == 28 && kind == 2) {
      return NONE;
    }
    return more < 30 ? ahead : behind;
  }

  private static void asAheadOfIt() {
    Sentence s = Sentence.of("Terms", "(SEATS, STILL, PAID, X, NIGHTS are as ahead of it; what was told since stays)");
    SilentHouse house = Houses.people(6);
    house.line(1, 9);
    Houses.law(house, "dues 3;");
    int[] x = new int[6];
    for (int night = 0; night < 6; night++) {
      x[night] = house.about(3);
      house.night();
      house.hire(night, true);
      house.seat(night, NONE);
    }
    for (int night = 5; night >= 0; night--) {
      house.undo();
      s.be("SEAT", house.of(night, 0), night);
      s.be("STILL yet", house.of(night, 1), 1);
      house.undo();
      s.be("not STILL", house.of(night, 1), 0);
      s.be("PAID yet", house.of(5, 2), 3 * (night + 1));
      house.undo();
      s.be("PAID as ahead", house.of(5, 2), 3 * night);
      s.be("X as ahead", house.about(3), x[night]);
      s.be("NIGHTS as ahead", house.about(2), night);
    }
    house.seed(9999);
    s.be("how many yet", house.undo(), 5);
    s.be("X is as ahead of a step, whatever was seeded since", house.about(3), 17);
    house.seed(9998);
    house.seat(5, 9);
    house.undo();
    s.be("X as ahead of that step", house.about(3), 9998 * 3 + 17);
  }

  private static void whatWasToldSinceStays() {
    Sentence s = Sentence.of("Terms", "what was told since stays");
    SilentHouse house = Houses.people(1);
    house.night();
    house.person(4, 5, 6);
    house.line(1, 7);
    Houses.law(house, "loud 9;");
    house.seen(9);
    Tape.read(house, "!");
    Tape.put(house, "night;");
    house.image();
    s.be("the night", house.undo(), 1);
    s.be("the seat", house.undo(), 0);
    int[] due = {2, 1, 0, 17, 1, 0, 0, 1, 6};
    for (int what = 0; what < due.length; what++) {
      s.be("about " + what, house.about(what), due[what]);
    }
    s.be("wit", house.of(1, 3), 4);
    s.be("power", house.wave(0, 4), 7);
    s.be("the text rules", house.wave(0, 2), 9);
    s.be("the fault", house.fault(1), 0);
    s.be("the tape", house.text(), 1);
    s.be("the image", house.back(), 1);
    s.be("the image has its steps", house.about(6), 2);
  }
}
