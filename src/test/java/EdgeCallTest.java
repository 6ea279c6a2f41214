/** Promises 33 to 38 at their edges: who said it, from nothing SEEN to six that are. */
public final class EdgeCallTest {
  private static final int BAD = AspenLine.BAD;
  private static final int FULL = AspenLine.FULL;
  private static final int NONE = AspenLine.NONE;

  public static void main(String[] args) {
    Tests.run(EdgeCallTest.class, 33, 38);
  }

  private static void bad(Check check, AspenLine x, String call, String... numbers) {
    for (String number : numbers) {
      check.due(x, call.replace("?", number), BAD);
    }
  }

  /** A call whose last number, ?, is 0 and then 1. */
  private static void both(Check check, AspenLine x, String call, int first, int second) {
    check.due(x, call.replace("?", "0"), first);
    check.due(x, call.replace("?", "1"), second);
  }

  /** This alone is seen. */
  private static void seen(Check check, AspenLine x, int u, int loud) {
    check.due("forget(0)", x.forget(0) >= 0);
    check.due(x, "see(" + u + ", " + loud + ")", 1);
  }

  // ---- promise 33

  static void promise33_loud0To120(Check check) {
    AspenLine x = check.told("plain;plain;");
    check.due(x, "see(0, 0)", 1);
    check.due(x, "see(1, 120)", 2);
    bad(check, x, "see(0, ?)", "-1", "121", "122", "256", "min", "max");
    bad(check, x, "see(?, 0)", "-1", "2", "6", "32", "min", "max");
    check.due(x, "count(0)", 2);
    check.due("without trees", new AspenLine().see(0, 0), BAD);
  }

  static void promise33_sixAreSeenTheSeventhIsFull(Check check) {
    AspenLine x = check.told("plain;");
    for (int n = 1; n <= 6; n++) {
      check.due(x, "see(0, 7)", n);
      check.due(x, "count(0)", n);
    }
    check.due(x, "see(0, 7)", FULL);
    check.due(x, "see(0, 0)", FULL);
    check.due("bad goes first", x.see(0, 121), BAD);
    check.due("bad goes first", x.see(1, 7), BAD);
    check.due(x, "count(0)", 6);
    check.due("the seventh is not seen", x.sayers(), 1);
    check.due(x, "forget(5)", 6);
    check.due("there is room again", x.see(0, 8), 6);
    check.due("the sixth is seen, too", x.sayers(), 0);
  }

  // ---- promise 34

  static void promise34_ofNone(Check check) {
    AspenLine x = check.told("plain;");
    check.due(x, "forget(0)", 0);
    bad(check, x, "forget(?)", "-1", "1", "6", "min", "max");
  }

  static void promise34_ofSix(Check check) {
    AspenLine x = check.told("plain;");
    for (int n = 1; n <= 6; n++) {
      check.due(x, "see(0, " + (n == 1 ? 7 : 8) + ")", n);
    }
    bad(check, x, "forget(?)", "-1", "7", "8", "32", "min", "max");
    check.due("all are kept", x.forget(6), 6);
    check.due(x, "sayers()", 0);
    check.due(x, "forget(2)", 6);
    bad(check, x, "forget(?)", "3", "6");
    check.due(x, "sayers()", 0);
    check.due(x, "forget(1)", 2);
    check.due("the first is kept", x.breaths(0, 1), 7);
    check.due(x, "forget(0)", 1);
    check.due(x, "count(0)", 0);
    check.due(x, "breaths(0, 0)", 60);
    check.due(x, "forget(1)", BAD);
    check.due("one that is seen now is the first", x.see(0, 9), 1);
    check.due(x, "breaths(0, 1)", 9);
  }

  // ---- promise 35

  static void promise35_nothingIsSeen(Check check) {
    check.due("without trees", new AspenLine().sayers(), 0);
    check.due("one tree", check.told("old;").sayers(), 1);
    check.due("six trees", check.told("old;old;old;old;old;old;").sayers(), 63);
  }

  static void promise35_breaths1To60(Check check) {
    AspenLine x = check.told("plain;plain;root 0 1 9;");
    int[][] seen = {{0, 3}, {1, 3}, {51, 3}, {52, 1}, {60, 1}, {61, 0}, {120, 0}};
    for (int[] s : seen) {
      seen(check, x, 0, s[0]);
      // 0 at 0 is what breaths of 1 to 9 at 1 leave
      check.due("sayers by " + s[0], x.sayers(), s[0] == 0 ? 2 : s[1]);
    }
  }

  static void promise35_whereNoRootsLead(Check check) {
    AspenLine x = check.told("plain;plain;root 0 1 9;", "cut(0, true)");
    seen(check, x, 0, 0);
    check.due(x, "sayers()", 2);
    seen(check, x, 0, 1);
    check.due(x, "sayers()", 1);
    check.due(x, "see(1, 0)", 2);
    check.due(x, "sayers()", 1);
    check.due(x, "see(1, 1)", 3);
    check.due(x, "sayers()", 0);
  }

  static void promise35_allOfSixAreLookedAt(Check check) {
    AspenLine x = check.told("plain;plain;plain;plain;plain;plain;root 0 5 3;");
    for (int u = 0; u < 5; u++) {
      check.due(x, "see(" + u + ", " + (u == 0 ? 9 : 0) + ")", u + 1);
    }
    check.due("of 9 at 0, of 12 at 5", x.sayers(), 33);
    check.due(x, "see(5, 12)", 6);
    check.due("of 12 at 5", x.sayers(), 32);
  }

  static void promise35_whateverTheWindIs(Check check) {
    AspenLine x = check.told("plain;wind 20;");
    seen(check, x, 0, 5);
    check.due(x, "sayers()", 1);
    both(check, x, "breaths(0, ?)", 1, 5);
  }

  // ---- promise 36

  static void promise36_fromNoneTo60(Check check) {
    AspenLine x = check.told("plain;plain;root 0 1 9;");
    both(check, x, "breaths(0, ?)", 60, 1);
    seen(check, x, 1, 0);
    both(check, x, "breaths(0, ?)", 9, 1);
    both(check, x, "breaths(1, ?)", 0, NONE);
    seen(check, x, 1, 1);
    both(check, x, "breaths(0, ?)", 1, 10);
    both(check, x, "breaths(1, ?)", 1, 1);
    seen(check, x, 1, 51);
    both(check, x, "breaths(0, ?)", 1, 60);
    seen(check, x, 1, 52);
    both(check, x, "breaths(0, ?)", 0, NONE);
    both(check, x, "breaths(1, ?)", 1, 52);
    seen(check, x, 1, 60);
    both(check, x, "breaths(1, ?)", 1, 60);
    seen(check, x, 1, 61);
    both(check, x, "breaths(1, ?)", 0, NONE);
    seen(check, x, 1, 120);
    both(check, x, "breaths(1, ?)", 0, NONE);
  }

  static void promise36_byKind(Check check) {
    AspenLine x = check.told("silver;");
    int[][] silver = {{0, 0, NONE}, {1, 0, NONE}, {2, 1, 1}, {119, 0, NONE}, {120, 1, 60}};
    int[][] old = {{0, 1, 1}, {1, 2, 2}, {29, 2, 58}, {30, 1, 60}, {31, 0, NONE}, {120, 0, NONE}};
    int[][] sapling = {{0, 1, 1}, {1, 1, 2}, {2, 0, NONE}, {116, 0, NONE}, {117, 1, 60}, {118, 0, NONE}, {120, 0, NONE}};
    int[][][] all = {silver, old, sapling};
    for (int kind = 1; kind <= 3; kind++) {
      check.due("graft(0, " + kind + ")", x.graft(0, kind) >= 0);
      for (int[] s : all[kind - 1]) {
        seen(check, x, 0, s[0]);
        both(check, x, "breaths(0, ?)", s[1], s[2]);
      }
    }
  }

  static void promise36_badAheadOfNone(Check check) {
    AspenLine x = check.told("plain;plain;");
    seen(check, x, 0, 120);
    both(check, x, "breaths(1, ?)", 0, NONE);
    bad(check, x, "breaths(0, ?)", "-1", "2", "3", "32", "min", "max");
    bad(check, x, "breaths(?, 0)", "-1", "2", "6", "32", "min", "max");
    bad(check, x, "breaths(?, 1)", "-1", "2", "6", "32", "min", "max");
    bad(check, new AspenLine(), "breaths(?, 1)", "-1", "0", "1");
  }

  // ---- promise 37

  static void promise37_fromNoneToAllFour(Check check) {
    AspenLine x = check.told("plain;");
    check.due("nothing is seen", x.kinds(0), 15);
    int[][] seen = {{0, 12}, {1, 13}, {2, 7}, {30, 7}, {31, 9}, {60, 3}, {61, 8}, {62, 2}, {117, 8}, {118, 2}, {119, 0},
        {120, 2}};
    for (int[] s : seen) {
      seen(check, x, 0, s[0]);
      check.due("kinds by " + s[0], x.kinds(0), s[1]);
    }
    check.due("it is as it was", x.tree(0, 0), 0);
  }

  static void promise37_saidAtAnyTree(Check check) {
    AspenLine x = check.told("plain;plain;root 0 1 9;");
    seen(check, x, 0, 51);
    check.due("silver: 51 is not twice; a sapling: 27", x.kinds(0), 9);
    seen(check, x, 0, 102);
    check.due("silver by 51", x.kinds(0), 2);
    check.due(x, "see(1, 42)", 2);
    check.due("by 51 at 0, by 60 at 1 it would be 60", x.kinds(0), 2);
    check.due("42 of 42", x.kinds(1), 0);
    seen(check, x, 0, 0);
    check.due("of 1 to 9 said at 1", x.kinds(0), 15);
    check.due("any kind of another", x.kinds(1), 15);
  }

  static void promise37_sixAreSeen(Check check) {
    AspenLine x = check.told("plain;plain;");
    for (int n = 1; n <= 6; n++) {
      check.due(x, "see(0, 60)", n);
    }
    check.due(x, "kinds(0)", 3);
    check.due(x, "kinds(1)", 15);
  }

  static void promise37_itsNumber(Check check) {
    AspenLine x = check.told("plain;plain;");
    bad(check, x, "kinds(?)", "-1", "2", "5", "6", "32", "min", "max");
    bad(check, new AspenLine(), "kinds(?)", "-1", "0", "1");
  }

  // ---- promise 38

  static void promise38_noneOrOneIsLeftNow(Check check) {
    both(check, new AspenLine(), "ask(?)", NONE, NONE);
    AspenLine x = check.told("plain;plain;");
    seen(check, x, 0, 7);
    check.due("one is left", x.breaths(0, 0), 1);
    both(check, x, "ask(?)", NONE, NONE);
    seen(check, x, 0, 61);
    check.due("none is left", x.sayers(), 0);
    both(check, x, "ask(?)", NONE, NONE);
  }

  static void promise38_twoAreLeft(Check check) {
    AspenLine x = check.told("old;");
    seen(check, x, 0, 7);
    check.due("14 and 15", x.breaths(0, 0), 2);
    both(check, x, "ask(?)", NONE, NONE);
    x = check.told("plain;plain;root 0 1 2;");
    seen(check, x, 1, 7);
    check.due("of 9 at 0, of 7 at 1", x.sayers(), 3);
    both(check, x, "ask(?)", 0, 1);
    x = check.told("plain;old;root 0 1 2;");
    seen(check, x, 1, 7);
    check.due("16 and 17 at 0", x.breaths(0, 0), 2);
    check.due("14 and 15 at 1", x.breaths(1, 0), 2);
    both(check, x, "ask(?)", 0, 1);
  }

  static void promise38_allAreLeft(Check check) {
    AspenLine x = check.told("plain;");
    both(check, x, "ask(?)", 0, 1);
    check.due(x, "graft(0, 1)", 0);
    both(check, x, "ask(?)", 0, 1);
    check.due(x, "graft(0, 2)", 1);
    both(check, x, "ask(?)", 0, 2);
    check.due(x, "graft(0, 3)", 2);
    both(check, x, "ask(?)", 0, 1);
  }

  static void promise38_ofSeveralTheFirst(Check check) {
    AspenLine x = check.told("plain;plain;");
    both(check, x, "ask(?)", 0, 60);
    x = check.told("old;plain;plain;");
    // 0 at each by 120 and, at the old one, by one of its own
    both(check, x, "ask(?)", 1, 120);
    x = check.told("plain;plain;plain;plain;plain;plain;");
    both(check, x, "ask(?)", 0, 300);
    for (int u = 0; u < 5; u++) {
      check.due(x, "see(" + u + ", 0)", u + 1);
    }
    both(check, x, "ask(?)", 5, 1);
  }

  static void promise38_sixAreSeen(Check check) {
    AspenLine x = check.told("plain;plain;");
    for (int n = 1; n <= 6; n++) {
      check.due(x, "see(0, 0)", n);
    }
    both(check, x, "ask(?)", 1, 1);
    check.due(x, "count(0)", 6);
  }

  static void promise38_badAheadOfNone(Check check) {
    bad(check, new AspenLine(), "ask(?)", "-1", "2", "3", "32", "min", "max");
    bad(check, check.told("plain;"), "ask(?)", "-1", "2", "3", "32", "min", "max");
  }
}
