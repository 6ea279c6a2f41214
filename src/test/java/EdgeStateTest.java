/** Promises 6 to 19 at their edges: what there is, from nothing to as much as there may be, and what is changed. */
public final class EdgeStateTest {
  private static final int BAD = AspenLine.BAD;
  private static final int FULL = AspenLine.FULL;
  private static final int NONE = AspenLine.NONE;
  private static final String SIX = "plain;plain;plain;plain;plain;plain;";

  public static void main(String[] args) {
    Tests.run(EdgeStateTest.class, 6, 19);
  }

  /** Calls of which ? is each number from 0 on, and what each answers. */
  private static void all(Check check, AspenLine x, String call, int... answers) {
    for (int i = 0; i < answers.length; i++) {
      check.due(x, call.replace("?", "" + i), answers[i]);
    }
  }

  private static void bad(Check check, AspenLine x, String call, String... numbers) {
    for (String number : numbers) {
      check.due(x, call.replace("?", number), BAD);
    }
  }

  /** Six trees in a row by roots as long as there may be, told from the far end. */
  private static AspenLine longRow(Check check) {
    return check.told(SIX + "root 5 4 9;root 4 3 9;root 3 2 9;root 2 1 9;root 1 0 9;");
  }

  // ---- promise 6

  static void promise06_fromNothingToAllThereMayBe(Check check) {
    AspenLine x = new AspenLine();
    all(check, x, "rule(?)", 0, 0, 0, 0, 0, 0);
    x = check.told(SIX + "wind 20;");
    all(check, x, "rule(?)", 6, 0, 20, 0, 0, 0);
    for (int i = 1; i <= 9; i++) {
      check.due(x, "grow(0, 1, 1)", i);
      check.due(x, "rule(1)", i);
    }
    int[] pairs = {0, 1, 3, 6, 10, 15};
    for (int k = 1; k <= 6; k++) {
      check.due(x, "book(0, 0, 60)", k);
      check.due(x, "rule(3)", k);
      check.due(x, "rule(5)", pairs[k - 1]);
    }
    for (int i = 0; i < 9; i++) {
      check.due(x, "cut(" + i + ", true)", 0);
      check.due(x, "rule(4)", (2 << i) - 1);
    }
    all(check, x, "rule(?)", 6, 9, 20, 6, 511, 15);
    bad(check, x, "rule(?)", "-1", "6", "7", "256", "-256", "min", "max");
  }

  static void promise06_aPairIsCountedOnceAndOnlyInOneHour(Check check) {
    AspenLine x = check.told("plain;plain;root 0 1 1;talk 0 0 9;talk 0 1 9;talk 23 0 9;talk 23 1 9;");
    check.due("crossed at both trees, in both hours", x.rule(5), 2);
    check.due(x, "shift(0, 0, 1)", 0);
    check.due(x, "rule(5)", 1);
    check.due(x, "wind(8)", 0);
    check.due("as loud as the wind: 9 at its own tree, 8 at the other", x.rule(5), 0);
    check.due(x, "wind(7)", 8);
    check.due(x, "rule(5)", 1);
  }

  // ---- promise 7

  static void promise07_aTreeAlone(Check check) {
    AspenLine x = check.told("sapling;");
    all(check, x, "tree(0, ?)", 3, 0, 1, 0);
    bad(check, x, "tree(?, 0)", "-1", "1", "5", "32", "min", "max");
    bad(check, x, "tree(0, ?)", "-1", "4", "32", "min", "max");
  }

  static void promise07_theLastOfSix(Check check) {
    AspenLine x = check.told("old;old;old;old;old;silver;");
    all(check, x, "tree(5, ?)", 1, 0, 32, 0);
    bad(check, x, "tree(?, 1)", "-1", "6", "7");
  }

  static void promise07_theKinds(Check check) {
    AspenLine x = check.told("plain;silver;old;sapling;");
    for (int t = 0; t < 4; t++) {
      check.due(x, "tree(" + t + ", 0)", t);
    }
    bad(check, x, "tree(4, ?)", "0", "1", "2", "3");
  }

  static void promise07_fromNoRootsToNine(Check check) {
    AspenLine x = check.told(SIX);
    for (int i = 1; i <= 9; i++) {
      check.due(x, "grow(0, " + (1 + i % 5) + ", 1)", i);
      check.due(x, "tree(0, 1)", i);
    }
    check.due(x, "tree(2, 1)", 2);
    check.due(x, "tree(1, 1)", 1);
    for (int i = 8; i >= 0; i--) {
      check.due(x, "cut(" + i + ", true)", 0);
      check.due("whole roots are counted alone", x.tree(0, 1), i);
    }
    check.due(x, "tree(0, 2)", 1);
    check.due(x, "tree(5, 2)", 32);
  }

  static void promise07_oneBehindAnotherToAllSix(Check check) {
    AspenLine x = longRow(check);
    for (int t = 0; t < 6; t++) {
      check.due(x, "tree(" + t + ", 2)", 63);
    }
    check.due(x, "cut(2, true)", 0);
    for (int t = 0; t < 6; t++) {
      check.due(x, "tree(" + t + ", 2)", t < 3 ? 7 : 56);
    }
    check.due(x, "cut(2, false)", 1);
    check.due(x, "tree(0, 2)", 63);
  }

  static void promise07_talksFromNoneToSix(Check check) {
    AspenLine x = check.told("plain;wind 20;");
    for (int k = 0; k < 6; k++) {
      check.due(x, "tree(0, 3)", (1 << k) - 1);
      check.due(x, "book(" + k + ", 0, 21)", k + 1);
    }
    check.due(x, "tree(0, 3)", 63);
    check.due(x, "shift(5, 2, 20)", 21);
    check.due("as loud as the wind", x.tree(0, 3), 31);
    check.due(x, "drop(0)", 6);
    check.due(x, "tree(0, 3)", 0);
  }

  static void promise07_talksAtTheLastOfSixTrees(Check check) {
    AspenLine x = check.told(SIX + "root 0 5 9;");
    for (int k = 0; k < 6; k++) {
      check.due(x, "book(1, " + k + ", 10)", k + 1);
    }
    check.due("its own, and one over the root", x.tree(5, 3), 33);
    check.due("its own, and one over the root", x.tree(0, 3), 33);
    check.due(x, "tree(1, 3)", 2);
    check.due(x, "tree(4, 3)", 16);
    check.due(x, "cut(0, true)", 0);
    check.due(x, "tree(5, 3)", 32);
  }

  // ---- promise 8

  static void promise08_theFirstRootAndTheLast(Check check) {
    AspenLine x = check.told(SIX + "root 0 5 1;");
    all(check, x, "root(0, ?)", 0, 5, 1, 0);
    bad(check, x, "root(?, 0)", "-1", "1", "8", "9", "32", "min", "max");
    bad(check, x, "root(0, ?)", "-1", "4", "32", "min", "max");
    for (int i = 2; i <= 9; i++) {
      check.due(x, "grow(5, 4, 9)", i);
    }
    all(check, x, "root(8, ?)", 5, 4, 9, 0);
    bad(check, x, "root(?, 3)", "-1", "9", "40");
    check.due(x, "cut(8, true)", 0);
    check.due(x, "root(8, 3)", 1);
    check.due(x, "root(7, 3)", 0);
    check.due("a cut one has its length still", x.root(8, 2), 9);
    check.due("and its trees", x.root(8, 0), 5);
  }

  // ---- promise 9

  static void promise09_theLeastTalkAndTheMost(Check check) {
    AspenLine x = check.told("plain;plain;plain;plain;plain;old;talk 0 0 1;talk 23 5 60;");
    all(check, x, "talk(0, ?)", 0, 0, 1, 1);
    all(check, x, "talk(1, ?)", 23, 5, 60, 32);
    bad(check, x, "talk(?, 0)", "-1", "2", "5", "6", "32", "min", "max");
    bad(check, x, "talk(0, ?)", "-1", "4", "32", "min", "max");
    check.due(x, "wind(1)", 0);
    check.due("nobody hears it", x.talk(0, 3), 0);
    for (int k = 3; k <= 6; k++) {
      check.due(x, "book(1, 1, 2)", k);
    }
    all(check, x, "talk(5, ?)", 1, 1, 2, 2);
    bad(check, x, "talk(?, 3)", "-1", "6", "7");
  }

  static void promise09_heardByAllSix(Check check) {
    AspenLine x = longRow(check);
    check.due(x, "book(0, 0, 46)", 1);
    check.due("45 far", x.talk(0, 3), 63);
    check.due(x, "shift(0, 2, 45)", 46);
    check.due("nothing comes to the last", x.talk(0, 3), 31);
  }

  // ---- promise 10

  static void promise10_0FromATreeToItself(Check check) {
    AspenLine x = check.told("plain;plain;root 0 1 3;");
    check.due(x, "far(0, 0)", 0);
    check.due(x, "far(1, 1)", 0);
    check.due(x, "cut(0, true)", 0);
    check.due(x, "far(0, 0)", 0);
    check.due(x, "far(1, 1)", 0);
    check.due(x, "far(0, 1)", NONE);
    check.due(x, "far(1, 0)", NONE);
  }

  static void promise10_asFarAsMayBe(Check check) {
    AspenLine x = longRow(check);
    all(check, x, "far(0, ?)", 0, 9, 18, 27, 36, 45);
    all(check, x, "far(5, ?)", 45, 36, 27, 18, 9, 0);
    all(check, x, "far(2, ?)", 18, 9, 0, 9, 18, 27);
    check.due(x, "cut(0, true)", 0);
    check.due(x, "far(0, 5)", NONE);
    check.due(x, "far(5, 0)", NONE);
    check.due(x, "far(0, 4)", 36);
  }

  static void promise10_theLeastOfSeveralWays(Check check) {
    AspenLine x = check.told("plain;plain;plain;root 0 1 9;root 0 1 2;root 0 1 4;root 1 2 1;root 0 2 4;");
    check.due(x, "far(0, 1)", 2);
    check.due("two roots are less than one", x.far(0, 2), 3);
    check.due(x, "cut(1, true)", 0);
    check.due("by 2: 4 and 1", x.far(1, 0), 4);
    check.due(x, "stretch(4, 2)", 4);
    check.due("by 2: 2 and 1", x.far(1, 0), 3);
    check.due(x, "stretch(4, 3)", 2);
    check.due("both ways are 4", x.far(0, 1), 4);
    check.due(x, "cut(2, true)", 0);
    check.due(x, "far(0, 1)", 4);
    check.due(x, "cut(3, true)", 0);
    check.due("the longest alone is left", x.far(0, 1), 9);
    check.due(x, "cut(0, true)", 0);
    check.due(x, "far(0, 1)", NONE);
    check.due(x, "far(0, 2)", 3);
  }

  static void promise10_badAheadOfNone(Check check) {
    AspenLine x = check.told("plain;plain;");
    check.due(x, "far(0, 1)", NONE);
    bad(check, x, "far(0, ?)", "-1", "2", "6", "32", "min", "max");
    bad(check, x, "far(?, 1)", "-1", "2", "6", "32", "min", "max");
    bad(check, x, "far(?, ?)", "-1", "2");
  }

  // ---- promise 11

  /** A plain tree 9 from one of each kind, and one to which no root leads. */
  private static AspenLine star(Check check) {
    return check.told("plain;plain;silver;old;sapling;plain;root 0 1 9;root 2 0 9;root 0 3 9;root 4 0 9;");
  }

  static void promise11_byKindFromNothingOn(Check check) {
    AspenLine x = star(check);
    for (int breath : new int[] {1, 8, 9}) {
      all(check, x, "loud(0, ?, " + breath + ")", breath, 0, 0, 0, 0, 0);
    }
    all(check, x, "loud(0, ?, 10)", 10, 1, 2, 0, 0, 0);
    all(check, x, "loud(0, ?, 11)", 11, 2, 4, 1, 1, 0);
    all(check, x, "loud(0, ?, 12)", 12, 3, 6, 1, 3, 0);
    all(check, x, "loud(0, ?, 13)", 13, 4, 8, 2, 5, 0);
    all(check, x, "loud(0, ?, 60)", 60, 51, 102, 25, 99, 0);
  }

  static void promise11_toThatOneItselfWithItsBreath(Check check) {
    AspenLine x = star(check);
    for (int breath : new int[] {1, 2, 3, 59, 60}) {
      check.due(x, "loud(1, 1, " + breath + ")", breath);
      check.due(x, "loud(2, 2, " + breath + ")", 2 * breath);
      check.due(x, "loud(3, 3, " + breath + ")", breath / 2);
      check.due(x, "loud(4, 4, " + breath + ")", breath == 1 ? 0 : 2 * breath - 3);
      check.due(x, "loud(5, 5, " + breath + ")", breath);
    }
  }

  static void promise11_nothingIfNoRootsLeadThere(Check check) {
    AspenLine x = star(check);
    all(check, x, "loud(5, ?, 60)", 0, 0, 0, 0, 0, 60);
    for (int kind = 0; kind < 4; kind++) {
      check.due(x, "graft(5, " + kind + ")", Math.max(0, kind - 1));
      check.due(x, "loud(0, 5, 60)", 0);
    }
    check.due(x, "cut(1, true)", 0);
    check.due(x, "loud(0, 2, 60)", 0);
    check.due(x, "loud(2, 0, 60)", 0);
  }

  static void promise11_neitherWindNorTheKindOfTheSayerCount(Check check) {
    AspenLine x = star(check);
    check.due(x, "wind(20)", 0);
    all(check, x, "loud(0, ?, 12)", 12, 3, 6, 1, 3, 0);
    check.due(x, "graft(0, 2)", 0);
    all(check, x, "loud(0, ?, 12)", 6, 3, 6, 1, 3, 0);
    check.due(x, "graft(0, 1)", 2);
    all(check, x, "loud(0, ?, 12)", 24, 3, 6, 1, 3, 0);
  }

  static void promise11_breathsAre1To60(Check check) {
    AspenLine x = star(check);
    check.due(x, "loud(0, 0, 1)", 1);
    check.due(x, "loud(0, 0, 60)", 60);
    bad(check, x, "loud(0, 0, ?)", "0", "-1", "61", "62", "256", "-256", "min", "max");
    bad(check, x, "loud(?, 0, 1)", "-1", "6", "min", "max");
    bad(check, x, "loud(0, ?, 1)", "-1", "6", "min", "max");
    check.due("45 far, 60 loud", longRow(check).loud(0, 5, 60), 15);
    check.due("45 far, 46 loud", longRow(check).loud(5, 0, 46), 1);
    check.due("45 far, 45 loud", longRow(check).loud(5, 0, 45), 0);
  }

  // ---- promise 12

  static void promise12_kindsAre0To3(Check check) {
    AspenLine x = check.told("sapling;plain;plain;plain;plain;old;");
    check.due(x, "graft(0, 0)", 3);
    check.due(x, "graft(0, 1)", 0);
    check.due(x, "graft(0, 2)", 1);
    check.due(x, "graft(0, 3)", 2);
    check.due("as it was", x.graft(0, 3), 3);
    bad(check, x, "graft(0, ?)", "-1", "4", "5", "32", "256", "min", "max");
    bad(check, x, "graft(?, 0)", "-1", "6", "32", "min", "max");
    check.due(x, "tree(0, 0)", 3);
    check.due(x, "graft(5, 1)", 2);
    check.due(x, "tree(5, 0)", 1);
    check.due(x, "tree(4, 0)", 0);
    check.due(x, "loud(5, 5, 60)", 120);
  }

  // ---- promise 13

  static void promise13_lengthsAre1To9(Check check) {
    AspenLine x = check.told("plain;plain;root 0 1 5;");
    check.due(x, "stretch(0, 1)", 5);
    check.due(x, "far(0, 1)", 1);
    check.due(x, "stretch(0, 9)", 1);
    check.due(x, "far(0, 1)", 9);
    check.due("as it was", x.stretch(0, 9), 9);
    bad(check, x, "stretch(0, ?)", "0", "-1", "10", "11", "257", "min", "max");
    bad(check, x, "stretch(?, 1)", "-1", "1", "9", "32", "min", "max");
    check.due(x, "root(0, 2)", 9);
  }

  static void promise13_aCutRootAndTheLastOfNine(Check check) {
    AspenLine x = check.told("plain;plain;");
    for (int i = 1; i <= 9; i++) {
      check.due(x, "grow(0, 1, " + i + ")", i);
    }
    check.due(x, "cut(8, true)", 0);
    check.due(x, "stretch(8, 1)", 9);
    check.due("cut still", x.root(8, 3), 1);
    check.due(x, "root(8, 2)", 1);
    check.due(x, "root(7, 2)", 8);
    check.due(x, "count(4)", 37);
    bad(check, x, "stretch(?, 1)", "9", "10");
  }

  // ---- promise 14

  static void promise14_fromNoneToNine(Check check) {
    AspenLine x = check.told(SIX);
    for (int i = 1; i <= 9; i++) {
      check.due(x, "grow(5, 0, " + i + ")", i);
      check.due(x, "rule(1)", i);
    }
    check.due(x, "grow(5, 0, 1)", FULL);
    check.due(x, "grow(0, 1, 9)", FULL);
    check.due("bad goes first: alike", x.grow(3, 3, 1), BAD);
    check.due("bad goes first: no such tree", x.grow(6, 0, 1), BAD);
    check.due("bad goes first: no such tree", x.grow(0, -1, 1), BAD);
    check.due("bad goes first: too long", x.grow(0, 1, 10), BAD);
    check.due("bad goes first: too short", x.grow(0, 1, 0), BAD);
    check.due(x, "rule(1)", 9);
    all(check, x, "root(8, ?)", 5, 0, 9, 0);
  }

  static void promise14_alikeIsBad(Check check) {
    AspenLine x = check.told(SIX);
    for (int t = 0; t < 6; t++) {
      check.due(x, "grow(" + t + ", " + t + ", 1)", BAD);
    }
    bad(check, x, "grow(?, 0, 1)", "-1", "6", "32", "min", "max");
    bad(check, x, "grow(0, ?, 1)", "-1", "6", "32", "min", "max");
    bad(check, x, "grow(0, 1, ?)", "0", "-1", "10", "257", "min", "max");
    check.due(x, "rule(1)", 0);
    check.due(x, "grow(0, 5, 1)", 1);
    check.due(x, "grow(5, 0, 9)", 2);
  }

  static void promise14_oneTreeAlone(Check check) {
    AspenLine x = check.told("plain;");
    check.due(x, "grow(0, 0, 1)", BAD);
    check.due(x, "grow(0, 1, 1)", BAD);
    check.due(x, "grow(1, 0, 1)", BAD);
  }

  static void promise14_cutRootsCountForFull(Check check) {
    AspenLine x = check.told("plain;plain;");
    for (int i = 0; i < 9; i++) {
      check.due(x, "grow(0, 1, 1)", i + 1);
      check.due(x, "cut(" + i + ", true)", 0);
    }
    check.due(x, "grow(0, 1, 1)", FULL);
  }

  static void promise14_aRootIsWholeAtFirst(Check check) {
    AspenLine x = check.told("plain;plain;", "keep(0)", "grow(0, 1, 2)", "cut(0, true)");
    check.due(x, "back(0)", 0);
    check.due(x, "rule(1)", 0);
    check.due(x, "rule(4)", 0);
    check.due(x, "grow(0, 1, 3)", 1);
    check.due(x, "root(0, 3)", 0);
    check.due(x, "far(0, 1)", 3);
  }

  // ---- promise 15

  static void promise15_cutTwiceAndWholeTwice(Check check) {
    AspenLine x = check.told("plain;plain;root 0 1 2;");
    check.due(x, "cut(0, false)", 0);
    check.due(x, "rule(4)", 0);
    check.due(x, "cut(0, true)", 0);
    check.due(x, "rule(4)", 1);
    check.due(x, "cut(0, true)", 1);
    check.due(x, "rule(4)", 1);
    check.due(x, "cut(0, false)", 1);
    check.due(x, "rule(4)", 0);
    check.due(x, "cut(0, false)", 0);
    bad(check, x, "cut(?, true)", "-1", "1", "8", "9", "31", "32", "min", "max");
    bad(check, x, "cut(?, false)", "-1", "1", "8", "9", "31", "32", "min", "max");
    check.due(x, "rule(4)", 0);
  }

  static void promise15_theLastOfNine(Check check) {
    AspenLine x = check.told("plain;plain;");
    for (int i = 1; i <= 9; i++) {
      check.due(x, "grow(0, 1, " + (10 - i) + ")", i);
    }
    check.due(x, "far(0, 1)", 1);
    check.due(x, "cut(8, true)", 0);
    check.due(x, "rule(4)", 256);
    check.due(x, "far(0, 1)", 2);
    bad(check, x, "cut(?, true)", "-1", "9", "40");
    check.due(x, "cut(0, true)", 0);
    check.due(x, "rule(4)", 257);
    check.due(x, "cut(8, false)", 1);
    check.due(x, "rule(4)", 1);
  }

  // ---- promise 16

  static void promise16_windIs0To20(Check check) {
    AspenLine x = new AspenLine();
    check.due(x, "wind(20)", 0);
    check.due(x, "wind(20)", 20);
    bad(check, x, "wind(?)", "-1", "21", "22", "256", "-236", "min", "max");
    check.due(x, "rule(2)", 20);
    check.due(x, "wind(0)", 20);
    check.due(x, "wind(1)", 0);
    check.due(x, "rule(2)", 1);
  }

  // ---- promise 17

  static void promise17_theLeastAndTheMost(Check check) {
    AspenLine x = check.told(SIX);
    check.due(x, "book(0, 0, 1)", 1);
    check.due(x, "book(23, 5, 60)", 2);
    bad(check, x, "book(?, 0, 1)", "-1", "24", "25", "256", "min", "max");
    bad(check, x, "book(0, ?, 1)", "-1", "6", "7", "256", "min", "max");
    bad(check, x, "book(0, 0, ?)", "0", "-1", "61", "62", "257", "min", "max");
    check.due(x, "rule(3)", 2);
    all(check, x, "talk(0, ?)", 0, 0, 1, 1);
    all(check, x, "talk(1, ?)", 23, 5, 60, 32);
  }

  static void promise17_fromNoneToSix(Check check) {
    AspenLine x = check.told("plain;");
    for (int k = 1; k <= 6; k++) {
      check.due(x, "book(" + k + ", 0, " + 10 * k + ")", k);
    }
    check.due(x, "book(0, 0, 1)", FULL);
    check.due("bad goes first: hour", x.book(24, 0, 1), BAD);
    check.due("bad goes first: tree", x.book(0, 1, 1), BAD);
    check.due("bad goes first: breath", x.book(0, 0, 0), BAD);
    check.due(x, "rule(3)", 6);
    check.due(x, "count(5)", 210);
    check.due(x, "drop(5)", 6);
    check.due("there is room again", x.book(0, 0, 1), 6);
    check.due(x, "book(0, 0, 1)", FULL);
    check.due(x, "talk(5, 2)", 1);
  }

  static void promise17_withoutTrees(Check check) {
    AspenLine x = new AspenLine();
    bad(check, x, "book(0, ?, 1)", "-1", "0", "1", "5");
  }

  // ---- promise 18

  static void promise18_hourIs0To23(Check check) {
    AspenLine x = check.told(SIX + "talk 7 1 30;");
    check.due(x, "shift(0, 0, 0)", 7);
    check.due(x, "shift(0, 0, 23)", 0);
    bad(check, x, "shift(0, 0, ?)", "-1", "24", "30", "60", "256", "min", "max");
    all(check, x, "talk(0, ?)", 23, 1, 30, 2);
  }

  static void promise18_treeIsOneThatThereIs(Check check) {
    AspenLine x = check.told(SIX + "talk 7 1 30;");
    check.due(x, "shift(0, 1, 0)", 1);
    check.due(x, "shift(0, 1, 5)", 0);
    bad(check, x, "shift(0, 1, ?)", "-1", "6", "7", "23", "min", "max");
    all(check, x, "talk(0, ?)", 7, 5, 30, 32);
    x = check.told("plain;plain;talk 7 1 30;");
    bad(check, x, "shift(0, 1, ?)", "2", "5");
    check.due(x, "shift(0, 1, 1)", 1);
  }

  static void promise18_breathIs1To60(Check check) {
    AspenLine x = check.told(SIX + "talk 7 1 30;");
    check.due(x, "shift(0, 2, 1)", 30);
    check.due(x, "shift(0, 2, 60)", 1);
    bad(check, x, "shift(0, 2, ?)", "0", "-1", "61", "62", "257", "min", "max");
    all(check, x, "talk(0, ?)", 7, 1, 60, 2);
  }

  static void promise18_noSuchTalkAndNothingElseThanThese(Check check) {
    AspenLine x = check.told(SIX + "talk 7 1 30;talk 8 1 30;");
    for (int what = 0; what <= 2; what++) {
      bad(check, x, "shift(?, " + what + ", 1)", "-1", "2", "5", "6", "32", "min", "max");
    }
    bad(check, x, "shift(0, ?, 1)", "-1", "3", "4", "32", "min", "max");
    check.due(x, "drop(1)", 2);
    check.due("of one that is gone", x.shift(1, 0, 1), BAD);
    check.due(x, "shift(0, 0, 1)", 7);
  }

  static void promise18_theLastOfSix(Check check) {
    AspenLine x = check.told("plain;plain;");
    for (int k = 1; k <= 6; k++) {
      check.due(x, "book(1, 0, 10)", k);
    }
    check.due(x, "shift(5, 0, 2)", 1);
    check.due(x, "shift(5, 1, 1)", 0);
    check.due(x, "shift(5, 2, 3)", 10);
    all(check, x, "talk(5, ?)", 2, 1, 3, 2);
    all(check, x, "talk(4, ?)", 1, 0, 10, 1);
    check.due(x, "shift(6, 0, 2)", BAD);
  }

  // ---- promise 19

  static void promise19_ofNone(Check check) {
    AspenLine x = check.told("plain;");
    check.due(x, "drop(0)", 0);
    bad(check, x, "drop(?)", "-1", "1", "6", "min", "max");
  }

  static void promise19_ofSix(Check check) {
    AspenLine x = check.told("plain;");
    for (int k = 1; k <= 6; k++) {
      check.due(x, "book(" + k + ", 0, 10)", k);
    }
    bad(check, x, "drop(?)", "-1", "7", "8", "32", "min", "max");
    check.due("all are kept", x.drop(6), 6);
    check.due(x, "rule(3)", 6);
    check.due(x, "drop(5)", 6);
    check.due(x, "talk(5, 0)", BAD);
    check.due("the first are kept", x.talk(4, 0), 5);
    bad(check, x, "drop(?)", "6", "7");
    check.due(x, "drop(1)", 5);
    check.due(x, "talk(0, 0)", 1);
    check.due(x, "talk(1, 0)", BAD);
    check.due(x, "drop(0)", 1);
    check.due(x, "talk(0, 0)", BAD);
    check.due(x, "rule(3)", 0);
    check.due(x, "count(5)", 0);
    check.due(x, "drop(1)", BAD);
    check.due("a talk more is the first again", x.book(9, 0, 1), 1);
    check.due(x, "talk(0, 0)", 9);
  }
}
