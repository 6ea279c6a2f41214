/** Promises 31 and 32: beavers. */
public final class OddsTest {
  private static final Check CHECK = new Check();
  private static final int BAD = AspenLine.BAD;

  public static void main(String[] args) {
    luck();
    mean();
    wrongNumbers();
    CHECK.close("OddsTest");
  }

  private static void odds(AspenLine x, int v, int t, int u, int breath, long over, long under) {
    String call = "luck(" + v + ", " + t + ", " + u + ", " + breath;
    CHECK.due(call + ", 0)", x.luck(v, t, u, breath, 0), over);
    CHECK.due(call + ", 1)", x.luck(v, t, u, breath, 1), under);
  }

  private static void average(AspenLine x, int v, int t, int breath, long over, long under) {
    String call = "mean(" + v + ", " + t + ", " + breath;
    CHECK.due(call + ", 0)", x.mean(v, t, breath, 0), over);
    CHECK.due(call + ", 1)", x.mean(v, t, breath, 1), under);
  }

  private static void luck() {
    AspenLine x = CHECK.told("plain;plain;root 0 1 2;");
    odds(x, 3, 0, 1, 3, 7, 10);
    odds(x, 5, 0, 1, 3, 1, 2);
    odds(x, 0, 0, 1, 3, 1, 1);
    odds(x, 10, 0, 1, 3, 0, 1);
    odds(x, 3, 0, 1, 2, 0, 1);
    odds(x, 3, 0, 0, 1, 1, 1);
    x.grow(1, 0, 1);
    odds(x, 3, 0, 1, 3, 91, 100);
    odds(x, 3, 0, 1, 2, 7, 10);
    x.cut(1, true);
    odds(x, 3, 0, 1, 3, 7, 10);
    odds(x, 3, 0, 1, 2, 0, 1);
    CHECK.due("nothing is changed", x.rule(4), 2);
    x.cut(0, true);
    odds(x, 0, 0, 1, 60, 0, 1);
    // nine in a row: all of them must stand
    AspenLine y = CHECK.told("plain;plain;root 0 1 1;root 0 1 1;root 0 1 1;root 0 1 1;root 0 1 1;root 0 1 1;"
        + "root 0 1 1;root 0 1 1;root 0 1 1;");
    odds(y, 9, 0, 1, 2, 612579511L, 1000000000L);
  }

  private static void mean() {
    AspenLine x = CHECK.told("plain;plain;plain;root 0 1 1;root 1 2 1;");
    average(x, 3, 0, 3, 219, 100);
    average(x, 0, 0, 3, 3, 1);
    average(x, 10, 0, 3, 1, 1);
    average(x, 5, 0, 2, 3, 2);
    average(x, 5, 1, 2, 2, 1);
    x.wind(20);
    average(x, 5, 0, 3, 0, 1);
    CHECK.due("nothing is changed", x.rule(4), 0);
    AspenLine y = CHECK.told("plain;plain;plain;plain;plain;plain;root 0 1 1;root 1 2 1;root 2 3 1;root 3 4 1;root 4 5 1;");
    // 1 + 9/10 + 81/100 + 729/1000 + 6561/10^4 + 59049/10^5
    average(y, 1, 0, 60, 468559, 100000);
  }

  private static void wrongNumbers() {
    AspenLine x = CHECK.told("plain;plain;root 0 1 2;");
    CHECK.due("luck v -1", x.luck(-1, 0, 1, 1, 0), BAD);
    CHECK.due("luck v 11", x.luck(11, 0, 1, 1, 0), BAD);
    CHECK.due("luck t", x.luck(1, 2, 1, 1, 0), BAD);
    CHECK.due("luck u", x.luck(1, 0, 2, 1, 0), BAD);
    CHECK.due("luck breath 0", x.luck(1, 0, 1, 0, 0), BAD);
    CHECK.due("luck breath 61", x.luck(1, 0, 1, 61, 0), BAD);
    CHECK.due("luck what", x.luck(1, 0, 1, 1, 2), BAD);
    CHECK.due("mean v -1", x.mean(-1, 0, 1, 0), BAD);
    CHECK.due("mean v 11", x.mean(11, 0, 1, 0), BAD);
    CHECK.due("mean t", x.mean(1, -1, 1, 0), BAD);
    CHECK.due("mean breath", x.mean(1, 0, 61, 0), BAD);
    CHECK.due("mean what", x.mean(1, 0, 1, -1), BAD);
  }
}
