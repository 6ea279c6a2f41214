/** Promises 31 and 32 at their edges: beavers by 0 to 10 out of ten, over none to nine roots, fractions in lowest terms. */
public final class EdgeOddsTest {
  private static final int BAD = AspenLine.BAD;
  private static final String SIX = "plain;plain;plain;plain;plain;plain;";
  private static final String ROW = "root 0 1 1;root 1 2 1;root 2 3 1;root 3 4 1;root 4 5 1;";

  public static void main(String[] args) {
    Tests.run(EdgeOddsTest.class, 31, 32);
  }

  private static void bad(Check check, AspenLine x, String call, String... numbers) {
    for (String number : numbers) {
      check.due(x, call.replace("?", number), BAD);
    }
  }

  /** A call whose last number, ?, is 0 (what is over) and 1 (what is under). */
  private static void fraction(Check check, AspenLine x, String call, long over, long under) {
    check.due(x, call.replace("?", "0"), over);
    check.due(x, call.replace("?", "1"), under);
  }

  private static AspenLine sideBySide(Check check, int roots) {
    AspenLine x = check.told("plain;plain;plain;");
    for (int i = 1; i <= roots; i++) {
      check.due(x, "grow(0, 1, 1)", i);
    }
    return x;
  }

  // ---- promise 31

  static void promise31_from0To10OutOfTen(Check check) {
    AspenLine x = check.told("plain;plain;root 0 1 2;");
    long[] over = {1, 9, 4, 7, 3, 1, 2, 3, 1, 1, 0};
    long[] under = {1, 10, 5, 10, 5, 2, 5, 10, 5, 10, 1};
    for (int v = 0; v <= 10; v++) {
      fraction(check, x, "luck(" + v + ", 0, 1, 3, ?)", over[v], under[v]);
      fraction(check, x, "luck(" + v + ", 0, 0, 1, ?)", 1, 1);
      fraction(check, x, "luck(" + v + ", 0, 1, 2, ?)", 0, 1);
    }
    bad(check, x, "luck(?, 0, 1, 3, 0)", "-1", "11", "12", "256", "min", "max");
  }

  static void promise31_noRootsOrAllOfThemCut(Check check) {
    AspenLine x = check.told("plain;plain;");
    for (int v = 0; v <= 10; v++) {
      fraction(check, x, "luck(" + v + ", 0, 1, 60, ?)", 0, 1);
      fraction(check, x, "luck(" + v + ", 1, 1, 60, ?)", 1, 1);
    }
    x = check.told("plain;plain;root 0 1 1;", "cut(0, true)");
    for (int v = 0; v <= 10; v++) {
      fraction(check, x, "luck(" + v + ", 0, 1, 60, ?)", 0, 1);
    }
    check.due("cut still", x.rule(4), 1);
  }

  static void promise31_nineRoots(Check check) {
    AspenLine x = sideBySide(check, 9);
    fraction(check, x, "luck(0, 0, 1, 2, ?)", 1, 1);
    fraction(check, x, "luck(1, 0, 1, 2, ?)", 999999999L, 1000000000L);
    fraction(check, x, "luck(5, 0, 1, 2, ?)", 511, 512);
    fraction(check, x, "luck(9, 0, 1, 2, ?)", 612579511L, 1000000000L);
    fraction(check, x, "luck(10, 0, 1, 2, ?)", 0, 1);
    fraction(check, x, "luck(9, 0, 0, 2, ?)", 1, 1);
    fraction(check, x, "luck(9, 0, 2, 60, ?)", 0, 1);
    for (int i = 0; i < 8; i++) {
      check.due(x, "cut(" + i + ", true)", 0);
    }
    fraction(check, x, "luck(3, 0, 1, 2, ?)", 7, 10);
    check.due(x, "cut(8, true)", 0);
    fraction(check, x, "luck(0, 0, 1, 2, ?)", 0, 1);
  }

  static void promise31_allOfARowMustStand(Check check) {
    AspenLine x = check.told(SIX + ROW);
    fraction(check, x, "luck(2, 0, 5, 6, ?)", 1024, 3125);
    fraction(check, x, "luck(2, 0, 5, 5, ?)", 0, 1);
    fraction(check, x, "luck(5, 5, 0, 6, ?)", 1, 32);
    fraction(check, x, "luck(9, 0, 5, 60, ?)", 1, 100000);
    fraction(check, x, "luck(1, 0, 5, 60, ?)", 59049, 100000);
  }

  static void promise31_asLoudAsTheWindIsNotHeard(Check check) {
    AspenLine x = check.told("plain;plain;root 0 1 1;root 0 1 9;wind 4;");
    fraction(check, x, "luck(3, 0, 1, 6, ?)", 7, 10);
    fraction(check, x, "luck(3, 0, 1, 13, ?)", 7, 10);
    fraction(check, x, "luck(3, 0, 1, 14, ?)", 91, 100);
    fraction(check, x, "luck(3, 0, 1, 5, ?)", 0, 1);
    fraction(check, x, "luck(3, 0, 0, 5, ?)", 1, 1);
    fraction(check, x, "luck(3, 0, 0, 4, ?)", 0, 1);
  }

  static void promise31_itsNumbers(Check check) {
    AspenLine x = check.told("plain;plain;root 0 1 2;");
    bad(check, x, "luck(1, ?, 0, 1, 0)", "-1", "2", "6", "32", "min", "max");
    bad(check, x, "luck(1, 0, ?, 1, 0)", "-1", "2", "6", "32", "min", "max");
    bad(check, x, "luck(1, 0, 1, ?, 0)", "0", "-1", "61", "257", "min", "max");
    bad(check, x, "luck(1, 0, 1, 1, ?)", "-1", "2", "3", "32", "min", "max");
  }

  // ---- promise 32

  static void promise32_from0To10OutOfTen(Check check) {
    AspenLine x = check.told("plain;plain;root 0 1 2;");
    long[] over = {2, 19, 9, 17, 8, 3, 7, 13, 6, 11, 1};
    long[] under = {1, 10, 5, 10, 5, 2, 5, 10, 5, 10, 1};
    for (int v = 0; v <= 10; v++) {
      fraction(check, x, "mean(" + v + ", 0, 3, ?)", over[v], under[v]);
      fraction(check, x, "mean(" + v + ", 0, 2, ?)", 1, 1);
    }
    bad(check, x, "mean(?, 0, 3, 0)", "-1", "11", "12", "256", "min", "max");
  }

  static void promise32_fromNoneToAllSix(Check check) {
    AspenLine x = check.told(SIX + ROW);
    fraction(check, x, "mean(0, 0, 6, ?)", 6, 1);
    fraction(check, x, "mean(0, 0, 5, ?)", 5, 1);
    fraction(check, x, "mean(10, 0, 60, ?)", 1, 1);
    fraction(check, x, "mean(5, 0, 60, ?)", 63, 32);
    fraction(check, x, "mean(5, 2, 60, ?)", 21, 8);
    check.due(x, "wind(20)", 0);
    fraction(check, x, "mean(5, 0, 20, ?)", 0, 1);
    fraction(check, x, "mean(5, 0, 21, ?)", 1, 1);
  }

  static void promise32_nineRootsAndMoreThanAnIntOver(Check check) {
    AspenLine x = sideBySide(check, 8);
    check.due(x, "grow(1, 2, 1)", 9);
    // 1 and 1.9 times what is left of 1 less ten to the power of -8
    fraction(check, x, "mean(1, 0, 9, ?)", 2899999981L, 1000000000L);
    fraction(check, x, "mean(0, 0, 9, ?)", 3, 1);
    fraction(check, x, "mean(10, 0, 9, ?)", 1, 1);
    check.due(x, "cut(8, true)", 0);
    fraction(check, x, "mean(1, 0, 9, ?)", 199999999L, 100000000L);
  }

  static void promise32_noRootsOrAllOfThemCut(Check check) {
    AspenLine x = check.told("plain;old;");
    for (int v = 0; v <= 10; v++) {
      fraction(check, x, "mean(" + v + ", 0, 60, ?)", 1, 1);
      fraction(check, x, "mean(" + v + ", 1, 1, ?)", 0, 1);
      fraction(check, x, "mean(" + v + ", 1, 2, ?)", 1, 1);
    }
    x = check.told("plain;plain;root 0 1 1;", "cut(0, true)");
    fraction(check, x, "mean(0, 0, 60, ?)", 1, 1);
    fraction(check, x, "mean(9, 1, 60, ?)", 1, 1);
  }

  static void promise32_itsNumbers(Check check) {
    AspenLine x = check.told("plain;plain;root 0 1 2;");
    bad(check, x, "mean(1, ?, 1, 0)", "-1", "2", "6", "32", "min", "max");
    bad(check, x, "mean(1, 0, ?, 0)", "0", "-1", "61", "257", "min", "max");
    bad(check, x, "mean(1, 0, 1, ?)", "-1", "2", "3", "32", "min", "max");
  }
}
