import java.util.function.Consumer;

/**
 * Whether a call left all as it was: two houses had the same calls, one of them that call besides,
 * and whatever they are asked or told then, they answer alike. Each look has houses of its own,
 * since an object answers for 512 calls.
 */
final class Alike {
  private static final int[] BILLS = {0, 1, 2, 5, 10, 20, 50, 100, 200, 400, 989, 990};
  private static final int[] HOW_OFTEN_BACK = {1, 2, 3, 15, 29, 30, 31};

  private Alike() {
  }

  static void leftAsItWas(String what, Consumer<SilentHouse> ahead, Call call) {
    look(what + " leaves seats, people and the house", ahead, call, Alike::state);
    look(what + " leaves the waves", ahead, call, Alike::waves);
    look(what + " leaves the sums", ahead, call, Alike::sums);
    look(what + " leaves orders and sets", ahead, call, Alike::orders);
    look(what + " leaves what to cut and whom to still", ahead, call, Alike::fewest);
    look(what + " leaves the next night", ahead, call, Alike::nextNight);
    look(what + " leaves the next numbers", ahead, call, Alike::nextNumbers);
    look(what + " leaves the tape", ahead, call, Alike::tape);
    look(what + " leaves the image", ahead, call, Alike::image);
    look(what + " leaves the texts", ahead, call, Alike::texts);
    for (int often : HOW_OFTEN_BACK) {
      look(what + " leaves what " + often + " steps back is", ahead, call, (house, answers) -> back(house, often, answers));
    }
  }

  private interface Look {
    void at(SilentHouse house, StringBuilder answers);
  }

  private static void look(String what, Consumer<SilentHouse> ahead, Call call, Look look) {
    SilentHouse one = new SilentHouse();
    SilentHouse other = new SilentHouse();
    ahead.accept(one);
    ahead.accept(other);
    call.on(one);
    StringBuilder got = new StringBuilder();
    StringBuilder due = new StringBuilder();
    look.at(one, got);
    look.at(other, due);
    boolean same = got.toString().equals(due.toString());
    Due.be(what, same, true);
    if (!same) {
      System.out.println("  got " + got + "\n  due " + due);
    }
  }

  private static void add(StringBuilder answers, long answer) {
    answers.append(answer).append(' ');
  }

  private static void state(SilentHouse house, StringBuilder answers) {
    for (int what = 0; what < 26; what++) {
      add(answers, house.about(what));
    }
    for (int person = 0; person < 6; person++) {
      for (int what = 0; what < 6; what++) {
        add(answers, house.of(person, what));
      }
    }
    add(answers, house.fault(0));
    add(answers, house.fault(1));
  }

  private static void waves(SilentHouse house, StringBuilder answers) {
    for (int line = 0; line < 10; line++) {
      for (int what = 0; what < 5; what++) {
        add(answers, house.wave(line, what));
      }
    }
  }

  private static void sums(SilentHouse house, StringBuilder answers) {
    for (int set = 0; set < 64; set++) {
      add(answers, house.all(set));
    }
    for (int person = 0; person < 6; person++) {
      add(answers, house.caused(person));
      add(answers, house.fair(person, 0));
      add(answers, house.fair(person, 1));
    }
  }

  private static void orders(SilentHouse house, StringBuilder answers) {
    for (int seat = -1; seat < 16; seat++) {
      add(answers, house.quietest(seat));
    }
    for (int i = -1; i <= 64; i++) {
      add(answers, house.who(i));
    }
  }

  private static void fewest(SilentHouse house, StringBuilder answers) {
    for (int bill : BILLS) {
      add(answers, house.cut(bill));
      add(answers, house.stilled(bill));
    }
  }

  private static void nextNight(SilentHouse house, StringBuilder answers) {
    add(answers, house.night());
    state(house, answers);
  }

  private static void nextNumbers(SilentHouse house, StringBuilder answers) {
    add(answers, house.person(5, 5, 5));
    add(answers, house.line(1, 5));
    add(answers, house.seen(3));
    state(house, answers);
  }

  /** The bytes of the tape show by what is read of them; back first, where there may be fewer texts. */
  private static void tape(SilentHouse house, StringBuilder answers) {
    add(answers, house.about(8));
    add(answers, house.back());
    int text = house.text();
    add(answers, text);
    add(answers, house.by(text) ? 1 : 0);
    state(house, answers);
    waves(house, answers);
  }

  private static void image(SilentHouse house, StringBuilder answers) {
    add(answers, house.back());
    state(house, answers);
    for (int often = 0; often < 31; often++) {
      add(answers, house.undo());
    }
    state(house, answers);
  }

  private static void texts(SilentHouse house, StringBuilder answers) {
    for (int text = -1; text <= 4; text++) {
      add(answers, house.played(text));
      add(answers, house.by(text) ? 1 : 0);
      add(answers, house.all(63));
    }
    state(house, answers);
  }

  private static void back(SilentHouse house, int often, StringBuilder answers) {
    for (int i = 0; i < often; i++) {
      add(answers, house.undo());
    }
    state(house, answers);
  }
}
