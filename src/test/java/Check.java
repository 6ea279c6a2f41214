/** Counts the answers that are not as due. */
final class Check {
  private int asked;
  private int wrong;

  void due(String call, long got, long want) {
    asked++;
    if (got != want) {
      wrong++;
      System.out.println(call + " answered " + got + ", due is " + want);
    }
  }

  void due(String call, boolean holds) {
    due(call, holds ? 1 : 0, 1);
  }

  static void feed(AspenLine x, String text) {
    for (int i = 0; i < text.length(); i++) {
      x.feed(text.charAt(i));
    }
  }

  /** A new object to which a text has been told. */
  AspenLine told(String text) {
    AspenLine x = new AspenLine();
    feed(x, text);
    due("text() of \"" + text + "\"", x.text() >= 0);
    return x;
  }

  void close(String name) {
    System.out.println(name + ": " + asked + " answers, " + wrong + " not as due");
    if (wrong != 0 || asked == 0) {
      System.exit(1);
    }
  }
}
