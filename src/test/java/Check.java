/** Counts the answers that are not as due. */
final class Check {
  private String test = "";
  private int askedBefore;
  private int asked;
  private int wrong;

  /** What follows is of a test of this name; each test has to ask something. */
  void begin(String name) {
    end();
    test = name + ": ";
    askedBefore = asked;
  }

  private void end() {
    if (!test.isEmpty() && asked == askedBefore) {
      wrong++;
      System.out.println(test + "asked nothing");
    }
  }

  void due(String call, long got, long want) {
    asked++;
    if (got != want) {
      wrong++;
      System.out.println(test + call + " answered " + got + ", due is " + want);
    }
  }

  void due(String call, boolean holds) {
    due(call, holds ? 1 : 0, 1);
  }

  /** A call told as text, so that what is asked is what is told of it. */
  void due(AspenLine x, String call, long want) {
    due(call, Calls.ask(x, call), want);
  }

  static void feed(AspenLine x, String text) {
    for (int i = 0; i < text.length(); i++) {
      x.feed(text.charAt(i));
    }
  }

  /** A new object to which a text has been told, and then what calls (told as text) have changed. */
  AspenLine told(String text, String... calls) {
    AspenLine x = new AspenLine();
    feed(x, text);
    due("text() of \"" + text + "\"", x.text() >= 0);
    for (String call : calls) {
      due(call + " is not refused", Calls.ask(x, call) >= 0);
    }
    return x;
  }

  int wrong() {
    end();
    test = "";
    return wrong;
  }

  void close(String name) {
    boolean well = wrong() == 0 && asked > 0;
    System.out.println(name + ": " + asked + " answers, " + wrong + " not as due");
    if (!well) {
      System.exit(1);
    }
  }
}
