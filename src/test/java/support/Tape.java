/** Puts texts on a house's tape. */
final class Tape {
  private Tape() {
  }

  /** Feeds the text behind an empty tape and cuts it to its length. */
  static void put(SilentHouse house, String text) {
    house.end(0);
    for (int at = 0; at < text.length(); at += 20) {
      house.feed(four(text, at), four(text, at + 4), four(text, at + 8), four(text, at + 12), four(text, at + 16));
    }
    house.end(text.length());
  }

  static int read(SilentHouse house, String text) {
    put(house, text);
    return house.text();
  }

  static int four(String text, int at) {
    int four = 0;
    for (int i = at; i < at + 4; i++) {
      four = four << 8 | (i < text.length() ? text.charAt(i) & 255 : 0);
    }
    return four;
  }
}
