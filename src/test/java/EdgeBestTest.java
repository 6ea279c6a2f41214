/** Promises 25 to 30 at their edges: what is best. */
public final class EdgeBestTest {
  private static final int BAD = AspenLine.BAD;
  private static final int FULL = AspenLine.FULL;
  private static final int NONE = AspenLine.NONE;
  private static final String SIX = "plain;plain;plain;plain;plain;plain;";

  public static void main(String[] args) {
    Tests.run(EdgeBestTest.class, 25, 30);
  }

  private static void bad(Check check, AspenLine x, String call, String... numbers) {
    for (String number : numbers) {
      check.due(x, call.replace("?", number), BAD);
    }
  }

  /** A call whose last number, ?, is 0 and then 1. */
  private static void both(Check check, AspenLine x, String call, int first, int second) {
    check.due(x, call.replace("?", "0"), first);
    check.due(x, call.replace("?", "1"), second);
  }

  /** Nine roots from 0 to 1, as long as their numbers and one more. */
  private static AspenLine nine(Check check, String trees) {
    AspenLine x = check.told(trees);
    for (int i = 1; i <= 9; i++) {
      check.due(x, "grow(0, 1, " + i + ")", i);
    }
    return x;
  }

  // ---- promise 25

  static void promise25_noneNeedBeCut(Check check) {
    AspenLine x = check.told("plain;plain;plain;root 0 1 4;");
    both(check, x, "hush(0, 1, 4, ?)", 0, 0);
    both(check, x, "hush(0, 1, 5, ?)", 1, 1);
    both(check, x, "hush(0, 2, 60, ?)", 0, 0);
    check.due(x, "wind(1)", 0);
    both(check, x, "hush(0, 1, 5, ?)", 0, 0);
    check.due(x, "cut(0, true)", 0);
    both(check, x, "hush(0, 1, 60, ?)", 0, 0);
  }

  static void promise25_byNone(Check check) {
    AspenLine x = nine(check, "plain;plain;wind 4;");
    both(check, x, "hush(0, 0, 5, ?)", NONE, NONE);
    both(check, x, "hush(0, 0, 60, ?)", NONE, NONE);
    both(check, x, "hush(0, 0, 4, ?)", 0, 0);
    both(check, check.told("old;"), "hush(0, 0, 1, ?)", 0, 0);
    both(check, check.told("old;"), "hush(0, 0, 2, ?)", NONE, NONE);
  }

  static void promise25_fromOneToAllNine(Check check) {
    AspenLine x = nine(check, "plain;plain;");
    for (int breath = 1; breath <= 10; breath++) {
      both(check, x, "hush(0, 1, " + breath + ", ?)", breath - 1, (1 << breath - 1) - 1);
    }
    both(check, x, "hush(0, 1, 60, ?)", 9, 511);
    both(check, x, "hush(1, 0, 60, ?)", 9, 511);
    check.due(x, "wind(4)", 0);
    both(check, x, "hush(0, 1, 10, ?)", 5, 31);
    both(check, x, "hush(0, 1, 13, ?)", 8, 255);
    both(check, x, "hush(0, 1, 14, ?)", 9, 511);
  }

  static void promise25_whatIsCutIsNotCutMore(Check check) {
    AspenLine x = nine(check, "plain;plain;");
    check.due(x, "cut(0, true)", 0);
    both(check, x, "hush(0, 1, 60, ?)", 8, 510);
    check.due(x, "cut(8, true)", 0);
    both(check, x, "hush(0, 1, 60, ?)", 7, 254);
    for (int i = 1; i <= 7; i++) {
      check.due(x, "cut(" + i + ", true)", 0);
    }
    both(check, x, "hush(0, 1, 60, ?)", 0, 0);
    check.due(x, "cut(8, false)", 1);
    both(check, x, "hush(0, 1, 60, ?)", 1, 256);
    both(check, x, "hush(0, 1, 9, ?)", 0, 0);
  }

  static void promise25_ofSeveralTheLeastNumber(Check check) {
    AspenLine row = check.told("plain;plain;plain;plain;root 2 3 1;root 1 2 1;root 0 1 1;");
    both(check, row, "hush(0, 3, 9, ?)", 1, 1);
    both(check, row, "hush(0, 2, 9, ?)", 1, 2);
    both(check, row, "hush(0, 1, 9, ?)", 1, 4);
    AspenLine twoWays = check.told("plain;plain;plain;plain;root 0 1 1;root 0 2 1;root 1 3 1;root 2 3 1;");
    both(check, twoWays, "hush(0, 3, 9, ?)", 2, 3);
    check.due(twoWays, "cut(0, true)", 0);
    both(check, twoWays, "hush(0, 3, 9, ?)", 1, 2);
  }

  static void promise25_fewerGoAheadOfALesserNumber(Check check) {
    AspenLine x = check.told("plain;plain;plain;root 0 1 1;root 0 1 1;root 0 1 1;root 1 2 1;");
    both(check, x, "hush(0, 2, 9, ?)", 1, 8);
    both(check, x, "hush(0, 1, 9, ?)", 3, 7);
  }

  static void promise25_badAheadOfNone(Check check) {
    AspenLine x = check.told("plain;plain;root 0 1 1;");
    both(check, x, "hush(0, 0, 1, ?)", NONE, NONE);
    bad(check, x, "hush(0, 0, 1, ?)", "-1", "2", "3", "32", "min", "max");
    bad(check, x, "hush(0, 0, ?, 0)", "0", "-1", "61", "257", "min", "max");
    bad(check, x, "hush(?, 0, 1, 0)", "-1", "2", "6", "32", "min", "max");
    bad(check, x, "hush(0, ?, 1, 0)", "-1", "2", "6", "32", "min", "max");
  }

  // ---- promise 26

  static void promise26_fullAtNineAndNotAtEight(Check check) {
    AspenLine x = check.told(SIX);
    for (int i = 1; i <= 8; i++) {
      both(check, x, "join(0, 60, 1, ?)", i == 1 ? 1 : 2, i == 1 ? 2 : 3);
      check.due(x, "grow(0, 1, 1)", i);
    }
    both(check, x, "join(0, 60, 1, ?)", 2, 3);
    check.due(x, "grow(0, 1, 1)", 9);
    both(check, x, "join(0, 60, 1, ?)", FULL, FULL);
    both(check, x, "join(0, 1, 9, ?)", FULL, FULL);
    for (int i = 0; i < 9; i++) {
      check.due(x, "cut(" + i + ", true)", 0);
    }
    check.due("cut ones are roots still", x.join(0, 60, 1, 0), FULL);
  }

  static void promise26_badAheadOfFull(Check check) {
    AspenLine x = nine(check, "plain;plain;");
    both(check, x, "join(1, 60, 1, ?)", FULL, FULL);
    bad(check, x, "join(?, 60, 1, 0)", "-1", "2", "6", "32", "min", "max");
    bad(check, x, "join(0, ?, 1, 0)", "0", "-1", "61", "257", "min", "max");
    bad(check, x, "join(0, 60, ?, 0)", "0", "-1", "10", "257", "min", "max");
    bad(check, x, "join(0, 60, 1, ?)", "-1", "2", "3", "32", "min", "max");
  }

  static void promise26_noneAndBadAheadOfNone(Check check) {
    AspenLine alone = check.told("plain;");
    both(check, alone, "join(0, 60, 1, ?)", NONE, NONE);
    bad(check, alone, "join(0, 60, 1, ?)", "-1", "2");
    bad(check, alone, "join(?, 60, 1, 0)", "-1", "1");
    AspenLine all = check.told("plain;plain;root 0 1 9;");
    both(check, all, "join(0, 60, 1, ?)", NONE, NONE);
    both(check, all, "join(0, 10, 1, ?)", NONE, NONE);
    both(check, all, "join(0, 9, 1, ?)", 1, 2);
    check.due("without trees", new AspenLine().join(0, 1, 1, 0), BAD);
  }

  static void promise26_lengths1To9(Check check) {
    AspenLine x = check.told("plain;plain;");
    both(check, x, "join(0, 1, 1, ?)", NONE, NONE);
    both(check, x, "join(0, 2, 1, ?)", 1, 2);
    both(check, x, "join(0, 9, 9, ?)", NONE, NONE);
    both(check, x, "join(0, 10, 9, ?)", 1, 2);
    both(check, x, "join(1, 10, 9, ?)", 1, 2);
    check.due(x, "wind(1)", 0);
    both(check, x, "join(0, 10, 9, ?)", NONE, NONE);
    both(check, x, "join(0, 11, 9, ?)", 1, 2);
  }

  static void promise26_theLesserAndTheGreaterTree(Check check) {
    AspenLine x = check.told("old;old;old;old;plain;plain;wind 3;");
    // 4 comes over the root: an old one does not hear that
    both(check, x, "join(4, 5, 1, ?)", 45, 2);
    both(check, x, "join(5, 5, 1, ?)", 45, 2);
    both(check, x, "join(0, 10, 1, ?)", 1, 2);
    both(check, x, "join(3, 10, 1, ?)", 3, 2);
  }

  static void promise26_ofSeveralTheLeast(Check check) {
    AspenLine x = check.told(SIX);
    for (int t = 0; t < 6; t++) {
      both(check, x, "join(" + t + ", 9, 1, ?)", t == 0 ? 1 : t, 2);
    }
    AspenLine rows = check.told(SIX + "root 0 1 1;root 1 2 1;root 3 4 1;root 4 5 1;");
    both(check, rows, "join(0, 60, 1, ?)", 3, 6);
    both(check, rows, "join(5, 60, 1, ?)", 3, 6);
    // 0 to 4 has 5 and 3 one behind it; 0 to 3 has 4 alone
    both(check, rows, "join(0, 3, 1, ?)", 4, 6);
  }

  // ---- promise 27

  static void promise27_none(Check check) {
    both(check, new AspenLine(), "dear(?)", NONE, NONE);
    AspenLine x = check.told("plain;plain;");
    both(check, x, "dear(?)", NONE, NONE);
    check.due(x, "book(0, 0, 9)", 1);
    both(check, x, "dear(?)", NONE, NONE);
    check.due(x, "grow(0, 1, 9)", 1);
    both(check, x, "dear(?)", NONE, NONE);
    check.due(x, "stretch(0, 8)", 9);
    both(check, x, "dear(?)", 0, 1);
    check.due("one beside it", x.grow(0, 1, 8), 2);
    both(check, x, "dear(?)", NONE, NONE);
    check.due("which does not do", x.stretch(1, 9), 8);
    both(check, x, "dear(?)", 0, 1);
    check.due(x, "cut(0, true)", 0);
    both(check, x, "dear(?)", NONE, NONE);
    check.due(x, "cut(0, false)", 1);
    check.due(x, "drop(0)", 1);
    both(check, x, "dear(?)", NONE, NONE);
  }

  static void promise27_noTreeIsLeft(Check check) {
    AspenLine x = check.told("old;silver;root 0 1 1;wind 1;talk 0 0 3;");
    both(check, x, "dear(?)", 0, 0);
  }

  static void promise27_theLastOfNine(Check check) {
    AspenLine x = check.told("plain;plain;plain;talk 0 0 9;");
    for (int i = 1; i <= 8; i++) {
      check.due(x, "grow(0, 1, 1)", i);
    }
    check.due(x, "grow(2, 1, 1)", 9);
    both(check, x, "dear(?)", 8, 2);
  }

  static void promise27_summedOverAllTalksOfAllTrees(Check check) {
    AspenLine x = check.told(SIX + "root 0 1 1;root 1 2 1;root 2 3 1;root 3 4 1;root 4 5 1;");
    for (int t = 0; t < 6; t++) {
      check.due(x, "book(" + t + ", " + t + ", 60)", t + 1);
    }
    // of 36 the middle root leaves 3 times 3 twice
    both(check, x, "dear(?)", 2, 18);
    check.due(x, "cut(4, true)", 0);
    // five in a row and one: 4 and 9, or 9 and 4, and 1
    both(check, x, "dear(?)", 1, 14);
  }

  static void promise27_whatIs0Or1(Check check) {
    bad(check, new AspenLine(), "dear(?)", "-1", "2", "3", "32", "min", "max");
    AspenLine x = check.told("plain;plain;root 0 1 1;talk 0 0 9;");
    both(check, x, "dear(?)", 0, 1);
    bad(check, x, "dear(?)", "-1", "2", "3", "32", "min", "max");
  }

  // ---- promise 28

  static void promise28_oneTalkAlone(Check check) {
    AspenLine x = check.told("plain;talk 23 0 9;");
    both(check, x, "hour(0, ?)", 0, 0);
    bad(check, x, "hour(?, 0)", "-1", "1", "5", "6", "32", "min", "max");
    bad(check, x, "hour(0, ?)", "-1", "2", "3", "32", "min", "max");
    bad(check, new AspenLine(), "hour(?, 0)", "-1", "0", "1");
  }

  static void promise28_theFirstThatIsFree(Check check) {
    AspenLine x = check.told("plain;talk 0 0 1;talk 1 0 1;talk 2 0 1;talk 3 0 1;talk 4 0 1;talk 23 0 1;");
    both(check, x, "hour(5, ?)", 5, 0);
    both(check, x, "hour(4, ?)", 4, 0);
    both(check, x, "hour(0, ?)", 0, 0);
    check.due(x, "shift(3, 0, 22)", 3);
    both(check, x, "hour(5, ?)", 3, 0);
    check.due(x, "talk(5, 0)", 23);
  }

  static void promise28_howManyOfAllPairs(Check check) {
    AspenLine x = check.told("plain;" + "talk0 0 1;".repeat(6));
    both(check, x, "hour(0, ?)", 1, 10);
    both(check, x, "hour(5, ?)", 1, 10);
    for (int k = 0; k < 6; k++) {
      check.due(x, "shift(" + k + ", 0, 23)", 0);
    }
    both(check, x, "hour(5, ?)", 0, 10);
    check.due(x, "rule(5)", 15);
    check.due(x, "shift(0, 2, 2)", 1);
    check.due("of which one is heard", x.wind(1), 0);
    both(check, x, "hour(5, ?)", 0, 0);
  }

  static void promise28_whoIsNotCrossedMayStay(Check check) {
    AspenLine x = check.told("plain;plain;root 0 1 5;talk 0 0 5;talk 0 1 5;");
    both(check, x, "hour(0, ?)", 0, 0);
    check.due(x, "shift(1, 2, 6)", 5);
    both(check, x, "hour(0, ?)", 1, 0);
    both(check, x, "hour(1, ?)", 1, 0);
  }

  // ---- promise 29

  static void promise29_byTheWind(Check check) {
    AspenLine x = check.told("silver;talk 5 0 9;talk 5 0 9;");
    // plain 9, silver 18, old 4, sapling 15
    both(check, x, "kind(0, ?)", 0, 1);
    check.due(x, "wind(3)", 0);
    both(check, x, "kind(0, ?)", 0, 1);
    check.due(x, "wind(4)", 3);
    both(check, x, "kind(0, ?)", 2, 0);
    check.due(x, "wind(8)", 4);
    both(check, x, "kind(0, ?)", 2, 0);
    check.due(x, "wind(9)", 8);
    both(check, x, "kind(0, ?)", 0, 0);
    check.due("it is as it was", x.tree(0, 0), 1);
    check.due(x, "wind(18)", 9);
    both(check, x, "kind(0, ?)", 0, 0);
  }

  static void promise29_theLastOfSixTreesAndAllPairs(Check check) {
    AspenLine x = check.told("old;old;old;old;old;sapling;" + "talk0 5 9;".repeat(6));
    both(check, x, "kind(5, ?)", 0, 15);
    both(check, x, "kind(0, ?)", 0, 15);
    check.due(x, "wind(4)", 0);
    both(check, x, "kind(5, ?)", 2, 0);
    both(check, x, "kind(0, ?)", 0, 15);
  }

  static void promise29_itsNumbers(Check check) {
    AspenLine x = check.told("plain;plain;");
    both(check, x, "kind(1, ?)", 0, 0);
    bad(check, x, "kind(?, 0)", "-1", "2", "6", "32", "min", "max");
    bad(check, x, "kind(0, ?)", "-1", "2", "3", "32", "min", "max");
    bad(check, new AspenLine(), "kind(?, 1)", "-1", "0", "1");
  }

  // ---- promise 30

  static void promise30_from0To20AndByNone(Check check) {
    AspenLine x = check.told("plain;talk 0 0 1;talk 0 0 60;");
    for (int breath = 1; breath <= 20; breath++) {
      check.due("shift(0, 2, " + breath + ")", x.shift(0, 2, breath) > 0);
      check.due(x, "calm()", breath);
    }
    check.due(x, "shift(0, 2, 21)", 20);
    check.due(x, "calm()", NONE);
    check.due(x, "shift(0, 2, 60)", 21);
    check.due(x, "calm()", NONE);
    check.due("another hour", x.shift(0, 0, 1), 0);
    check.due(x, "calm()", 0);
  }

  static void promise30_whateverTheWindIs(Check check) {
    AspenLine x = check.told("plain;talk 23 0 7;talk 23 0 9;wind 20;");
    check.due(x, "calm()", 7);
    check.due(x, "wind(0)", 20);
    check.due(x, "calm()", 7);
  }

  static void promise30_noPairIsLeft(Check check) {
    AspenLine x = check.told("plain;talk 1 0 5;talk 1 0 12;talk 1 0 9;talk 2 0 14;talk 2 0 11;");
    check.due("the lesser of 14 and 11", x.calm(), 11);
    check.due(x, "drop(4)", 5);
    check.due("the second of 5, 12, 9", x.calm(), 9);
    check.due(x, "drop(1)", 4);
    check.due("one alone", x.calm(), 0);
    check.due(x, "drop(0)", 1);
    check.due("none", x.calm(), 0);
    check.due("without trees", new AspenLine().calm(), 0);
  }

  static void promise30_whatNobodyHearsIsNotCrossed(Check check) {
    AspenLine x = check.told("old;talk 1 0 1;talk 1 0 60;");
    check.due(x, "calm()", 0);
    check.due(x, "shift(0, 2, 2)", 1);
    check.due(x, "calm()", 1);
    check.due(x, "shift(0, 2, 41)", 2);
    check.due(x, "calm()", 20);
    check.due(x, "shift(0, 2, 42)", 41);
    check.due(x, "calm()", NONE);
  }
}
