import java.util.Arrays;
import java.util.Random;

/** Many runs of calls at random, each answered by the class and by the model beside it. */
public final class ModelTest {
  private static final int RUNS = 1600;
  /** What an object answers behind these is free. */
  private static final int CALLS = 512;

  private final Random random;
  private final Texts texts;
  private final SilentHouse house = new SilentHouse();
  private final Model model = new Model();
  private final int run;
  private final StringBuilder told = new StringBuilder();
  private int calls = 0;

  private ModelTest(int run) {
    this.run = run;
    random = new Random(run);
    texts = new Texts(random);
  }

  public static void main(String[] args) {
    for (int run = 0; run < RUNS; run++) {
      new ModelTest(run).play();
    }
    Due.end();
  }

  private void play() {
    int before = Due.wrong();
    if (random.nextInt(8) != 0) {
      open();
    }
    while (calls < CALLS && Due.wrong() == before) {
      one();
    }
    if (Due.wrong() != before) {
      System.out.println("run " + run + " was:" + told);
    }
  }

  /** People on seats and lines, so that the run has something to ask about from its start. */
  private void open() {
    for (int p = random.nextInt(6); p >= 0; p--) {
      call("person", random.nextInt(10), random.nextInt(10), random.nextInt(11));
      call("seat", random.nextInt(6), random.nextInt(2) == 0 ? random.nextInt(16) : random.nextInt(6));
    }
    for (int l = random.nextInt(10); l > 0; l--) {
      call("line", random.nextInt(4) == 0 ? random.nextInt(3) : 1, random.nextInt(10));
    }
    if (random.nextInt(4) != 0) {
      read(texts.laws());
      call("by", 0);
    }
  }

  private int number(int below) {
    return random.nextInt(20) == 0 ? random.nextInt(below + 4) - 2 : random.nextInt(below);
  }

  private int any() {
    int[] odd = {-1, -2, 6, 10, 63, 64, 300, 990, 991, 9999, 10000, Integer.MAX_VALUE, Integer.MIN_VALUE};
    return odd[random.nextInt(odd.length)];
  }

  private void one() {
    int r = random.nextInt(100);
    if (r < 2) {
      call("person", number(10), number(10), number(11));
    } else if (r < 4) {
      call("line", number(3), number(10));
    } else if (r < 6) {
      call("seed", random.nextInt(5) == 0 ? any() : random.nextInt(10000));
    } else if (r < 9) {
      read(random.nextInt(3) == 0 ? texts.laws() : texts.text(random.nextBoolean() ? 30 : 3));
    } else if (r < 11) {
      call("by", random.nextInt(4) == 0 ? any() : number(4) - 1);
    } else if (r < 24) {
      int seat = random.nextInt(4) == 0 ? -1 : number(16);
      call("seat", number(6), random.nextInt(3) == 0 ? seat % 6 : seat);
    } else if (r < 30) {
      call("hire", number(6), random.nextInt(2));
    } else if (r < 36) {
      call("night");
    } else if (r < 39) {
      call("played", number(4));
    } else if (r < 45) {
      for (int i = random.nextInt(3) == 0 ? random.nextInt(35) : 0; i >= 0; i--) {
        call("undo");
      }
    } else {
      ask();
    }
  }

  private void ask() {
    switch (random.nextInt(15)) {
      case 0: call("of", number(6), number(6)); break;
      case 1: call("wave", number(10), number(5)); break;
      case 2: call("all", random.nextInt(8) == 0 ? any() : random.nextInt(64)); break;
      case 3: call("caused", number(6)); break;
      case 4: fair(); break;
      case 5: quietest(); break;
      case 6: call("cut", random.nextInt(8) == 0 ? any() : random.nextInt(random.nextBoolean() ? 20 : 400)); break;
      case 7: call("stilled", random.nextInt(8) == 0 ? any() : random.nextInt(random.nextBoolean() ? 20 : 400)); break;
      case 8: seen(); break;
      case 9: call("who", random.nextInt(8) == 0 ? any() : random.nextInt(10) - 1); break;
      case 10: call("image"); break;
      case 11: if (random.nextInt(3) == 0) { call("back"); } break;
      case 12: call("about", random.nextInt(30) - 2); break;
      case 13: call("fault", random.nextInt(4) - 1); break;
      default: tape(); break;
    }
  }

  private void fair() {
    int person = number(6);
    call("fair", person, 0);
    call("fair", person, 1);
    call("fair", person, number(2));
  }

  private void quietest() {
    for (int seat = -1; seat < 16; seat++) {
      call("quietest", seat);
    }
    call("quietest", any());
  }

  /** What is told as seen is mostly what a set that sits would sound like. */
  private void seen() {
    if (random.nextInt(4) == 0) {
      call("seen", any());
    } else if (random.nextBoolean()) {
      call("seen", -1);
      for (int line = 0; line < random.nextInt(11); line++) {
        call("seen", Math.max(0, model.wave(line, 2)));
      }
    } else {
      call("seen", random.nextInt(6));
    }
    for (int i = -1; i < 5; i++) {
      call("who", i);
    }
  }

  private void tape() {
    if (random.nextBoolean()) {
      call("feed", random.nextInt(), random.nextInt(), random.nextInt(), random.nextInt(), random.nextInt());
    } else {
      call("end", random.nextInt(3) == 0 ? any() : random.nextInt(301));
    }
    call("about", 8);
    if (random.nextInt(4) == 0) {
      call("text");
    }
  }

  private void read(String text) {
    call("end", 0);
    for (int at = 0; at < text.length(); at += 20) {
      call("feed", Tape.four(text, at), Tape.four(text, at + 4), Tape.four(text, at + 8), Tape.four(text, at + 12),
          Tape.four(text, at + 16));
    }
    call("end", text.length());
    told.append("\n  // ").append(text.replace("\n", "\\n"));
    call("text");
    call("fault", 0);
    call("fault", 1);
    call("about", 8);
  }

  private void call(String name, int... a) {
    calls++;
    if (calls > CALLS) {
      return;
    }
    String what = name + Arrays.toString(a);
    long got = onHouse(name, a);
    long due = onModel(name, a);
    told.append("\n  ").append(what).append(" ").append(got);
    Due.be("run " + run + ": " + what, got, due);
  }

  private long onHouse(String name, int[] a) {
    switch (name) {
      case "person": return house.person(a[0], a[1], a[2]);
      case "line": return house.line(a[0], a[1]);
      case "seed": return house.seed(a[0]) ? 1 : 0;
      case "feed": return house.feed(a[0], a[1], a[2], a[3], a[4]);
      case "end": return house.end(a[0]);
      case "text": return house.text();
      case "fault": return house.fault(a[0]);
      case "by": return house.by(a[0]) ? 1 : 0;
      case "seat": return house.seat(a[0], a[1]) ? 1 : 0;
      case "hire": return house.hire(a[0], a[1] != 0) ? 1 : 0;
      case "night": return house.night();
      case "played": return house.played(a[0]);
      case "undo": return house.undo();
      case "of": return house.of(a[0], a[1]);
      case "wave": return house.wave(a[0], a[1]);
      case "all": return house.all(a[0]);
      case "caused": return house.caused(a[0]);
      case "fair": return house.fair(a[0], a[1]);
      case "quietest": return house.quietest(a[0]);
      case "cut": return house.cut(a[0]);
      case "stilled": return house.stilled(a[0]);
      case "seen": return house.seen(a[0]);
      case "who": return house.who(a[0]);
      case "image": return house.image();
      case "back": return house.back();
      case "about": return house.about(a[0]);
      default: throw new IllegalArgumentException(name);
    }
  }

  private long onModel(String name, int[] a) {
    switch (name) {
      case "person": return model.person(a[0], a[1], a[2]);
      case "line": return model.line(a[0], a[1]);
      case "seed": return model.seed(a[0]) ? 1 : 0;
      case "feed": return model.feed(a[0], a[1], a[2], a[3], a[4]);
      case "end": return model.end(a[0]);
      case "text": return model.text();
      case "fault": return model.fault(a[0]);
      case "by": return model.by(a[0]) ? 1 : 0;
      case "seat": return model.seat(a[0], a[1]) ? 1 : 0;
      case "hire": return model.hire(a[0], a[1] != 0) ? 1 : 0;
      case "night": return model.night();
      case "played": return model.played(a[0]);
      case "undo": return model.undo();
      case "of": return model.of(a[0], a[1]);
      case "wave": return model.wave(a[0], a[1]);
      case "all": return model.all(a[0]);
      case "caused": return model.caused(a[0]);
      case "fair": return model.fair(a[0], a[1]);
      case "quietest": return model.quietest(a[0]);
      case "cut": return model.cut(a[0]);
      case "stilled": return model.stilled(a[0]);
      case "seen": return model.seen(a[0]);
      case "who": return model.who(a[0]);
      case "image": return model.image();
      case "back": return model.back();
      case "about": return model.about(a[0]);
      default: throw new IllegalArgumentException(name);
    }
  }
}
