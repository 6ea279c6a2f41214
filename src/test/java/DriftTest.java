/** Promise 39: by a seed. */
public final class DriftTest {
  private static final Check CHECK = new Check();
  private static final int BAD = AspenLine.BAD;

  public static void main(String[] args) {
    AspenLine x = CHECK.told("plain;plain;root 0 1 1;talk 1 0 60;talk 2 1 21;wind 7;");
    // Seed 0: 12345, of which 0 is got: the root is cut, the wind is 0; each talk is heard at its own tree alone.
    CHECK.due("drift(0, 1, 0)", x.drift(0, 1, 0), 2);
    CHECK.due("drift(0, 1, 1)", x.drift(0, 1, 1), 2);
    // Then 3554416254, of which 21468 is got: whole again; the wind is 1341 modulo 21, 18: all hear all.
    CHECK.due("drift(0, 2, 1)", x.drift(0, 2, 1), 4);
    CHECK.due("drift(0, 2, 0)", x.drift(0, 2, 0), 6);
    CHECK.due("nothing is changed: cut", x.rule(4), 0);
    CHECK.due("nothing is changed: wind", x.rule(2), 7);
    x.cut(0, true);
    CHECK.due("a cut root is whole then", x.drift(0, 1, 0), 4);
    CHECK.due("drift(0, 0, 0)", x.drift(0, 0, 0), BAD);
    CHECK.due("drift(0, 61, 0)", x.drift(0, 61, 0), BAD);
    CHECK.due("drift(0, 1, 2)", x.drift(0, 1, 2), BAD);
    CHECK.due("drift(0, 1, -1)", x.drift(0, 1, -1), BAD);
    CHECK.due("drift(0, 60, 0)", x.drift(0, 60, 0) > 0);
    x.drop(0);
    CHECK.due("without talks", x.drift(0, 60, 0), 0);
    years();
    AspenLine none = new AspenLine();
    CHECK.due("without roots", none.drift(0, 1, 0), AspenLine.STATE);
    CHECK.due("without roots, bad", none.drift(0, 61, 0), BAD);
    CHECK.close("DriftTest");
  }

  /** Breaths of 15, 16, 18, 19 tell winds apart; what was worked out is how many hear in each year. */
  private static void years() {
    AspenLine x = CHECK.told("plain;plain;plain;root 0 1 1;root 1 0 3;"
        + "talk 1 0 60;talk 1 2 18;talk 1 2 19;talk 2 2 15;talk 2 0 16;talk 2 1 19;wind 3;");
    years(x, 0, 9, 4, 7, 4, 9, 9, 7, 7);
    years(x, -3, 9, 6, 9, 9, 2, 7, 9, 6);
    years(x, Integer.MAX_VALUE, 9, 9, 9, 9, 2, 6, 9, 9);
    years(x, 1, 9, 9, 9, 9, 9, 7, 9, 6);
    x.cut(0, true);
    CHECK.due("sixty years from a cut root", x.drift(0, 60, 0), 447);
    CHECK.due("sixty years from a cut root", x.drift(-3, 60, 0), 432);
    CHECK.due("the sixtieth", x.drift(1, 60, 1), 5);
  }

  private static void years(AspenLine x, int seed, int... heard) {
    int sum = 0;
    for (int n = 1; n <= heard.length; n++) {
      sum += heard[n - 1];
      CHECK.due("drift(" + seed + ", " + n + ", 0)", x.drift(seed, n, 0), sum);
      CHECK.due("drift(" + seed + ", " + n + ", 1)", x.drift(seed, n, 1), heard[n - 1]);
    }
  }
}
