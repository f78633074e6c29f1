/** A call on a house, with its answer (a boolean counts 1 or 0). */
interface Call {
  long on(SilentHouse house);

  static long told(boolean answer) {
    return answer ? 1 : 0;
  }
}
