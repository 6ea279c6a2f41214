/** Promises 20 to 24 at their edges: who hears what. */
public final class EdgeHearTest {
  private static final int BAD = AspenLine.BAD;
  private static final int NONE = AspenLine.NONE;
  /** 39 from one end to the other. */
  private static final String ROW = "root 0 1 9;root 1 2 9;root 2 3 9;root 3 4 9;root 4 5 3;";
  private static final String SIX = "plain;plain;plain;plain;plain;plain;";

  public static void main(String[] args) {
    Tests.run(EdgeHearTest.class, 20, 24);
  }

  private static void bad(Check check, AspenLine x, String call, String... numbers) {
    for (String number : numbers) {
      check.due(x, call.replace("?", number), BAD);
    }
  }

  // ---- promise 20

  static void promise20_louderThanWindAndNotAsLoud(Check check) {
    AspenLine x = check.told("plain;silver;old;sapling;");
    // by a wind of 0
    check.due(x, "hears(0, 1)", 1);
    check.due(x, "hears(1, 1)", 2);
    check.due(x, "hears(2, 1)", 0);
    check.due(x, "hears(2, 2)", 4);
    check.due(x, "hears(3, 1)", 0);
    check.due(x, "hears(3, 2)", 8);
    check.due(x, "wind(20)", 0);
    check.due(x, "hears(0, 20)", 0);
    check.due(x, "hears(0, 21)", 1);
    check.due(x, "hears(1, 10)", 0);
    check.due(x, "hears(1, 11)", 2);
    check.due(x, "hears(2, 41)", 0);
    check.due(x, "hears(2, 42)", 4);
    check.due(x, "hears(3, 11)", 0);
    check.due(x, "hears(3, 12)", 8);
  }

  static void promise20_fromNoneToAllSix(Check check) {
    AspenLine x = check.told(SIX + ROW + "wind 20;");
    check.due(x, "hears(0, 1)", 0);
    check.due(x, "hears(0, 20)", 0);
    check.due(x, "hears(0, 21)", 1);
    check.due(x, "hears(0, 29)", 1);
    check.due(x, "hears(0, 30)", 3);
    check.due(x, "hears(0, 59)", 31);
    check.due(x, "hears(0, 60)", 63);
    check.due(x, "hears(5, 60)", 63);
    check.due(x, "cut(4, true)", 0);
    check.due(x, "hears(0, 60)", 31);
    check.due(x, "hears(5, 60)", 32);
  }

  static void promise20_noWordComesWhereNoRootsLead(Check check) {
    AspenLine x = check.told("silver;silver;");
    check.due(x, "hears(0, 60)", 1);
    check.due(x, "hears(1, 60)", 2);
  }

  static void promise20_itsNumbers(Check check) {
    AspenLine x = check.told("plain;plain;");
    check.due(x, "hears(0, 60)", 1);
    bad(check, x, "hears(0, ?)", "0", "-1", "61", "62", "257", "min", "max");
    bad(check, x, "hears(?, 1)", "-1", "2", "5", "32", "min", "max");
  }

  // ---- promise 21

  static void promise21_oneHourAndOneTreeThatHearsBoth(Check check) {
    AspenLine x = check.told("plain;plain;plain;root 0 1 2;root 1 2 2;talk 0 0 3;talk 0 2 3;talk 23 0 3;");
    check.due("at the one between them", x.crossed(0, 1), 1);
    check.due(x, "crossed(1, 0)", 1);
    check.due("another hour", x.crossed(0, 2), 0);
    check.due(x, "shift(1, 2, 2)", 3);
    check.due("nothing comes of one", x.crossed(0, 1), 0);
    check.due(x, "shift(1, 2, 3)", 2);
    check.due(x, "wind(1)", 0);
    check.due("both are as loud as the wind", x.crossed(0, 1), 0);
    check.due(x, "shift(0, 0, 23)", 0);
    check.due("said at one tree", x.crossed(0, 2), 1);
    check.due(x, "wind(3)", 1);
    check.due("said at one tree, as loud as the wind", x.crossed(0, 2), 0);
  }

  static void promise21_alikeIsBad(Check check) {
    AspenLine x = check.told("plain;talk 0 0 3;talk 0 0 3;");
    check.due(x, "crossed(0, 1)", 1);
    check.due(x, "crossed(0, 0)", BAD);
    check.due(x, "crossed(1, 1)", BAD);
    bad(check, x, "crossed(?, 0)", "-1", "2", "5", "6", "32", "min", "max");
    bad(check, x, "crossed(0, ?)", "-1", "2", "5", "6", "32", "min", "max");
    bad(check, x, "crossed(?, ?)", "-1", "2", "max");
    for (int k = 3; k <= 6; k++) {
      check.due(x, "book(0, 0, 3)", k);
    }
    check.due(x, "crossed(0, 5)", 1);
    check.due(x, "crossed(5, 0)", 1);
    check.due(x, "crossed(5, 5)", BAD);
    check.due(x, "crossed(5, 6)", BAD);
  }

  // ---- promise 22

  static void promise22_breath60IsFoundAnd61WouldBeTooMuch(Check check) {
    AspenLine x = check.told(SIX + ROW + "wind 20;");
    check.due("39 far", x.least(0, 32), 60);
    check.due("all six", x.least(0, 63), 60);
    check.due(x, "stretch(4, 4)", 3);
    check.due("40 far", x.least(0, 32), NONE);
    check.due("all six", x.least(0, 63), NONE);
    check.due("all but the last", x.least(0, 31), 57);
    check.due(x, "wind(19)", 20);
    check.due("40 far, less wind", x.least(0, 32), 60);
  }

  static void promise22_breath1IsTheLeast(Check check) {
    AspenLine x = check.told("plain;old;");
    check.due(x, "least(0, 1)", 1);
    check.due(x, "least(1, 2)", 2);
    check.due(x, "wind(1)", 0);
    check.due(x, "least(0, 1)", 2);
    check.due(x, "least(1, 2)", 4);
  }

  static void promise22_ofNoTrees(Check check) {
    AspenLine x = check.told("plain;old;");
    check.due(x, "least(0, 0)", 1);
    check.due(x, "least(1, 0)", 1);
    check.due(x, "wind(20)", 0);
    check.due("nobody has to hear it", x.least(0, 0), 1);
  }

  static void promise22_othersMayHearItToo(Check check) {
    AspenLine x = check.told("plain;plain;root 0 1 4;");
    check.due(x, "least(0, 2)", 5);
    check.due(x, "least(0, 3)", 5);
    check.due(x, "just(0, 2)", NONE);
  }

  static void promise22_whereNoRootsLead(Check check) {
    AspenLine x = check.told("plain;plain;root 0 1 4;", "cut(0, true)");
    check.due(x, "least(0, 2)", NONE);
    check.due(x, "least(0, 3)", NONE);
    check.due(x, "least(0, 1)", 1);
  }

  static void promise22_badAheadOfNone(Check check) {
    AspenLine x = check.told("plain;plain;");
    check.due(x, "least(0, 3)", NONE);
    bad(check, x, "least(0, ?)", "-1", "4", "5", "7", "8", "256", "min", "max");
    bad(check, x, "least(?, 3)", "-1", "2", "32", "min", "max");
    x = check.told(SIX);
    check.due(x, "least(0, 63)", NONE);
    bad(check, x, "least(0, ?)", "64", "65", "127", "-64");
    check.due("without trees", new AspenLine().least(0, 0), BAD);
  }

  // ---- promise 23

  static void promise23_justTheseAndNoOthers(Check check) {
    AspenLine x = check.told("plain;plain;plain;root 0 1 9;root 1 2 9;");
    check.due(x, "just(0, 1)", 1);
    check.due(x, "just(0, 3)", 10);
    check.due(x, "just(0, 7)", 19);
    check.due(x, "just(0, 2)", NONE);
    check.due(x, "just(0, 4)", NONE);
    check.due(x, "just(0, 5)", NONE);
    check.due(x, "just(0, 6)", NONE);
    check.due("the middle one alone", x.just(1, 2), 1);
    check.due(x, "just(1, 3)", NONE);
    check.due(x, "just(1, 7)", 10);
  }

  static void promise23_ofNoTrees(Check check) {
    AspenLine x = check.told("plain;old;silver;");
    check.due("it always hears itself", x.just(0, 0), NONE);
    check.due("a breath of 1 is lost at an old one", x.just(1, 0), 1);
    check.due(x, "just(2, 0)", NONE);
    check.due(x, "wind(1)", 0);
    check.due(x, "just(0, 0)", 1);
    check.due(x, "just(2, 0)", NONE);
    check.due(x, "wind(2)", 1);
    check.due(x, "just(2, 0)", 1);
  }

  static void promise23_notByALesserBreathThanIsNeeded(Check check) {
    // the silver one hears it by 5 and more, the old one by 6 and more, the sapling by 6 and more, from 0 by none
    AspenLine x = check.told("old;silver;old;sapling;root 0 1 4;root 0 2 4;root 0 3 4;wind 0;");
    check.due(x, "just(0, 0)", 1);
    check.due(x, "just(0, 1)", 2);
    check.due(x, "just(0, 3)", 5);
    check.due(x, "just(0, 15)", 6);
    check.due(x, "just(0, 7)", NONE);
    check.due(x, "just(0, 11)", NONE);
  }

  static void promise23_breath60IsFoundAnd61WouldBeTooMuch(Check check) {
    AspenLine x = check.told(SIX + ROW + "wind 20;");
    check.due(x, "just(0, 63)", 60);
    check.due(x, "just(0, 31)", 57);
    check.due(x, "just(0, 0)", 1);
    check.due(x, "just(0, 1)", 21);
    check.due(x, "stretch(4, 4)", 3);
    check.due(x, "just(0, 63)", NONE);
  }

  static void promise23_badAheadOfNone(Check check) {
    AspenLine x = check.told("plain;plain;");
    check.due(x, "just(0, 2)", NONE);
    bad(check, x, "just(0, ?)", "-1", "4", "5", "6", "256", "min", "max");
    bad(check, x, "just(?, 2)", "-1", "2", "32", "min", "max");
    x = check.told(SIX);
    check.due(x, "just(0, 63)", NONE);
    bad(check, x, "just(0, ?)", "64", "65", "127", "-64");
    check.due("without trees", new AspenLine().just(0, 0), BAD);
  }

  // ---- promise 24

  static void promise24_ofNoTrees(Check check) {
    AspenLine x = check.told("old;old;wind 20;");
    check.due(x, "from(0, 0)", 0);
    check.due(x, "from(0, 1)", 1);
    check.due("no tree at which it may be said", new AspenLine().from(0, 0), NONE);
    check.due("no tree at which it may be said", new AspenLine().from(0, 1), NONE);
    check.due("no trees, and not 0 or 1", new AspenLine().from(0, 2), BAD);
    check.due("no trees, and bits of one", new AspenLine().from(1, 0), BAD);
  }

  static void promise24_ofSeveralTheFirst(Check check) {
    AspenLine x = check.told(SIX + "root 0 1 2;root 1 2 2;root 2 3 2;root 3 4 2;root 4 5 2;");
    // from 0 by 5, from 1 by 3, from 2 by 5
    check.due(x, "from(5, 0)", 1);
    check.due(x, "from(5, 1)", 3);
    // from 2 and from 3 by 7
    check.due(x, "from(33, 0)", 2);
    check.due(x, "from(33, 1)", 7);
    check.due(x, "from(63, 0)", 2);
    check.due(x, "from(63, 1)", 7);
    check.due("the last one alone", x.from(32, 0), 5);
    check.due("the last one alone", x.from(32, 1), 1);
  }

  static void promise24_breath60IsFoundAnd61WouldBeTooMuch(Check check) {
    // both old ones need 42 of what comes to them
    AspenLine x = check.told("old;plain;plain;plain;plain;old;root 0 1 8;root 1 2 9;root 2 3 1;root 3 4 9;root 4 5 9;wind 20;");
    check.due("18 far from both", x.from(33, 0), 3);
    check.due("18 far from both", x.from(33, 1), 60);
    check.due(x, "stretch(0, 9)", 8);
    check.due("19 far from one of them", x.from(33, 0), NONE);
    check.due("19 far from one of them", x.from(33, 1), NONE);
  }

  static void promise24_noneWhereNoRootsLeadToBoth(Check check) {
    AspenLine x = check.told("plain;plain;plain;root 0 1 1;");
    check.due(x, "from(5, 0)", NONE);
    check.due(x, "from(7, 1)", NONE);
    check.due(x, "from(3, 0)", 0);
    check.due(x, "from(3, 1)", 2);
  }

  static void promise24_badAheadOfNone(Check check) {
    AspenLine x = check.told("plain;plain;");
    check.due(x, "from(3, 0)", NONE);
    bad(check, x, "from(3, ?)", "-1", "2", "3", "32", "min", "max");
    bad(check, x, "from(?, 0)", "-1", "4", "5", "7", "256", "min", "max");
    x = check.told(SIX);
    check.due(x, "from(63, 0)", NONE);
    bad(check, x, "from(?, 1)", "64", "65", "127", "-64");
  }
}
