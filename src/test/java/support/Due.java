/** Counts the answers that are not as due, as the tests under ../shared/tests do. */
final class Due {
  private static final int MOST_PRINTED = 40;
  private static int asked = 0;
  private static int wrong = 0;

  private Due() {
  }

  static void be(String what, long got, long want) {
    asked++;
    if (got != want) {
      wrong++;
      if (wrong <= MOST_PRINTED) {
        System.out.println(what + " answered " + got + ", due is " + want);
      }
    }
  }

  static void be(String what, boolean got, boolean want) {
    be(what, got ? 1 : 0, want ? 1 : 0);
  }

  static int wrong() {
    return wrong;
  }

  static void end() {
    System.out.println(wrong == 0 ? asked + " answers, all as due" : wrong + " of " + asked + " answers are not as due");
    if (wrong != 0) {
      System.exit(1);
    }
  }
}
