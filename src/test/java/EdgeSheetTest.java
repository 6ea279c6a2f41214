/** Promises 40 to 46 at their edges: images, sheets of 0 to 40 cells, talks read from them, what the machine finds. */
public final class EdgeSheetTest {
  private static final int BAD = AspenLine.BAD;
  private static final int STATE = AspenLine.STATE;
  private static final int NONE = AspenLine.NONE;
  private static final String SIX = "plain;plain;plain;plain;plain;plain;";
  private static final int BYTES = 0;
  private static final int SHORTS = 1;
  private static final int INTS = 2;
  private static final int NULL_FOUND = 1;
  private static final int INDEX_FOUND = 2;
  private static final int CAST_FOUND = 3;

  public static void main(String[] args) {
    Tests.run(EdgeSheetTest.class, 40, 46);
  }

  private static void bad(Check check, AspenLine x, String call, String... numbers) {
    for (String number : numbers) {
      check.due(x, call.replace("?", number), BAD);
    }
  }

  /** A sheet of that lane with just these cells. */
  private static void sheet(Check check, AspenLine x, int k, int lane, int... cells) {
    check.due(x, "sheet(" + k + ", " + lane + ", " + cells.length + ")", 1);
    for (int i = 0; i < cells.length; i++) {
      check.due(x, "lay(" + k + ", " + i + ", " + cells[i] + ")", 1);
    }
  }

  /** A sheet of 40 cells, by which from each of them on a talk may be read. */
  private static void fullSheet(Check check, AspenLine x, int k, int lane) {
    int[] cells = new int[40];
    for (int i = 0; i < 40; i++) {
      cells[i] = 1 + i % 5;
    }
    sheet(check, x, k, lane, cells);
  }

  private static void talk(Check check, AspenLine x, int k, int hour, int tree, int breath) {
    check.due(x, "talk(" + k + ", 0)", hour);
    check.due(x, "talk(" + k + ", 1)", tree);
    check.due(x, "talk(" + k + ", 2)", breath);
  }

  /** What read() answers, and the fault that torn() tells behind it. */
  private static void read(Check check, AspenLine x, String call, int answer, int fault) {
    check.due(x, call, answer);
    check.due("torn() behind " + call, x.torn(), fault);
  }

  // ---- promise 40

  static void promise40_anImageIs0Or1(Check check) {
    AspenLine x = check.told("plain;");
    bad(check, x, "keep(?)", "-1", "2", "3", "32", "33", "min", "max");
    check.due(x, "count(1)", 0);
    check.due("there was none", x.keep(1), 0);
    check.due(x, "count(1)", 1);
    check.due("there was one", x.keep(1), 1);
    check.due(x, "count(1)", 1);
    check.due("there was none", x.keep(0), 0);
    check.due(x, "count(1)", 2);
    check.due("there was one", x.keep(0), 1);
    check.due("there was one", x.keep(1), 1);
    check.due(x, "count(1)", 2);
  }

  static void promise40_ofNothingAndOfAllThereMayBe(Check check) {
    AspenLine x = new AspenLine();
    check.due(x, "keep(0)", 0);
    check.due(x, "wind(20)", 0);
    check.due(x, "back(0)", 0);
    check.due(x, "rule(2)", 0);
    check.due(x, "rule(0)", 0);
    AspenLine full = Worlds.FULL.make();
    check.due(full, "keep(0)", 1);
    int pairs = full.rule(5);
    for (int i = 0; i < 9; i++) {
      full.stretch(i, 9);
      full.cut(i, i != 8);
    }
    for (int t = 0; t < 6; t++) {
      full.graft(t, 3 - full.tree(t, 0));
    }
    full.wind(20);
    full.drop(0);
    check.due("all of it is back", full.back(0), pairs);
    AspenLine fresh = Worlds.FULL.make();
    for (int what = 0; what <= 3; what++) {
      for (int i = 0; i < 9; i++) {
        check.due("root(" + i + ", " + what + ")", full.root(i, what), fresh.root(i, what));
      }
      for (int i = 0; i < 6; i++) {
        check.due("tree(" + i + ", " + what + ")", full.tree(i, what), fresh.tree(i, what));
        check.due("talk(" + i + ", " + what + ")", full.talk(i, what), fresh.talk(i, what));
      }
    }
    check.due(full, "rule(2)", 3);
    check.due("the cut one, too", full.rule(4), 256);
  }

  static void promise40_anImageIsNotChangedByWhatIsChanged(Check check) {
    AspenLine x = check.told("plain;plain;root 0 1 2;wind 3;talk 5 0 9;", "keep(0)", "graft(0, 1)", "stretch(0, 9)",
        "cut(0, true)", "grow(0, 1, 1)", "wind(0)", "shift(0, 0, 6)", "shift(0, 1, 1)", "shift(0, 2, 10)", "book(5, 1, 1)");
    check.due(x, "back(0)", 0);
    check.due(x, "tree(0, 0)", 0);
    check.due(x, "rule(1)", 1);
    check.due(x, "root(0, 2)", 2);
    check.due(x, "root(0, 3)", 0);
    check.due(x, "rule(2)", 3);
    check.due(x, "rule(3)", 1);
    talk(check, x, 0, 5, 0, 9);
    // nor by what is changed behind back()
    check.due(x, "graft(0, 2)", 0);
    check.due(x, "drop(0)", 1);
    check.due(x, "back(0)", 0);
    check.due(x, "tree(0, 0)", 0);
    check.due(x, "rule(3)", 1);
  }

  static void promise40_aLaterOneTakesItsPlace(Check check) {
    AspenLine x = check.told("plain;wind 3;", "keep(0)", "wind(4)", "keep(1)", "wind(5)", "keep(0)", "wind(6)");
    check.due(x, "back(0)", 0);
    check.due(x, "rule(2)", 5);
    check.due(x, "back(1)", 0);
    check.due(x, "rule(2)", 4);
  }

  // ---- promise 41

  static void promise41_noneIsThere(Check check) {
    AspenLine x = check.told("plain;talk 1 0 9;");
    check.due(x, "back(0)", STATE);
    check.due(x, "back(1)", STATE);
    bad(check, x, "back(?)", "-1", "2", "3", "32", "33", "min", "max");
    check.due(x, "rule(3)", 1);
    check.due(x, "keep(1)", 0);
    check.due("another one is none", x.back(0), STATE);
    check.due(x, "back(1)", 0);
    bad(check, x, "back(?)", "-1", "2", "3", "32", "33", "min", "max");
  }

  static void promise41_howManyPairsAreCrossed(Check check) {
    AspenLine x = check.told("plain;" + "talk1 0 9;".repeat(6), "keep(0)", "drop(2)", "keep(1)", "drop(1)");
    check.due(x, "back(0)", 15);
    check.due(x, "rule(5)", 15);
    check.due(x, "back(1)", 1);
    check.due(x, "back(0)", 15);
    check.due("it is there still", x.count(1), 2);
  }

  static void promise41_whatIsSeenAndTheTapeAndSheetsStay(Check check) {
    AspenLine x = check.told("plain;", "keep(0)", "see(0, 9)", "feed(32)", "sheet(0, 2, 40)", "read(0, 2, 40, 1)");
    check.due(x, "back(0)", 0);
    check.due(x, "count(0)", 1);
    check.due(x, "breaths(0, 1)", 9);
    check.due(x, "count(2)", 1);
    check.due(x, "count(3)", 40);
    check.due(x, "torn()", INDEX_FOUND);
  }

  static void promise41_goneWithATextButNotWithAFault(Check check) {
    AspenLine x = check.told("plain;", "keep(0)", "keep(1)");
    Check.feed(x, "plain;#");
    check.due(x, "text()", -16);
    check.due(x, "count(1)", 2);
    check.due(x, "back(1)", 0);
    Check.feed(x, "plain;");
    check.due(x, "text()", 1);
    check.due(x, "count(1)", 0);
    check.due(x, "back(0)", STATE);
    check.due(x, "back(1)", STATE);
    check.due(x, "keep(0)", 0);
    check.due(x, "back(0)", 0);
    check.due(x, "back(1)", STATE);
  }

  // ---- promise 42

  static void promise42_sizes0To40(Check check) {
    AspenLine x = new AspenLine();
    check.due(x, "count(3)", NONE);
    check.due(x, "sheet(0, 0, 0)", 1);
    check.due(x, "count(3)", 0);
    check.due(x, "sheet(0, 0, 1)", 1);
    check.due(x, "count(3)", 1);
    check.due(x, "sheet(0, 0, 40)", 1);
    check.due(x, "count(3)", 40);
    bad(check, x, "sheet(0, 0, ?)", "41", "42", "256", "65536", "max");
    check.due(x, "count(3)", 40);
    for (String below : new String[] {"-1", "-2", "-40", "-41", "-256", "min"}) {
      check.due(x, "sheet(0, 0, " + below + ")", -14);
    }
    check.due(x, "count(3)", 40);
  }

  static void promise42_badAheadOfSize(Check check) {
    AspenLine x = new AspenLine();
    bad(check, x, "sheet(?, 0, -1)", "-1", "4", "5", "32", "min", "max");
    bad(check, x, "sheet(?, 0, 40)", "-1", "4", "5", "32", "min", "max");
    bad(check, x, "sheet(0, ?, -1)", "-1", "3", "4", "32", "min", "max");
    bad(check, x, "sheet(0, ?, 40)", "-1", "3", "4", "32", "min", "max");
    check.due(x, "sheet(0, 0, -1)", -14);
    check.due(x, "sheet(3, 2, -1)", -14);
    check.due("nothing still", x.count(3), NONE);
    check.due("SIZE is no fault of read()", x.torn(), 0);
    for (int k = 0; k < 4; k++) {
      check.due("nothing still", x.lay(k, 0, 1), -11);
    }
  }

  static void promise42_eachSheetAndEachLane(Check check) {
    AspenLine x = check.told("plain;");
    for (int k = 0; k < 4; k++) {
      for (int lane = 0; lane < 3; lane++) {
        check.due(x, "sheet(" + k + ", " + lane + ", " + (k + lane) + ")", 1);
        for (int as = 0; as < 3; as++) {
          read(check, x, "read(" + k + ", " + as + ", 40, 1)", 0, as == lane ? INDEX_FOUND : CAST_FOUND);
        }
        if (k + lane > 0) {
          check.due(x, "lay(" + k + ", " + (k + lane - 1) + ", 1)", 1);
        }
        check.due(x, "lay(" + k + ", " + (k + lane) + ", 1)", -12);
      }
    }
    check.due(x, "count(3)", 2);
  }

  static void promise42_aNewRowIs0(Check check) {
    AspenLine x = check.told(SIX);
    fullSheet(check, x, 1, SHORTS);
    check.due(x, "read(1, 1, 0, 1)", 1);
    check.due(x, "sheet(1, 1, 40)", 1);
    check.due("a breath of 0", x.read(1, 1, 0, 1), -20);
    check.due("the last cells", x.read(1, 1, 37, 1), -20);
    check.due(x, "lay(1, 39, 9)", 1);
    check.due(x, "read(1, 1, 37, 1)", 1);
    talk(check, x, 1, 0, 0, 9);
    // a lesser one, and then as many cells again
    fullSheet(check, x, 1, SHORTS);
    check.due(x, "sheet(1, 1, 0)", 1);
    check.due(x, "sheet(1, 1, 40)", 1);
    check.due(x, "lay(1, 2, 9)", 1);
    check.due(x, "read(1, 1, 0, 1)", 1);
    talk(check, x, 2, 0, 0, 9);
  }

  // ---- promise 43

  static void promise43_nullAndIndex(Check check) {
    AspenLine x = new AspenLine();
    for (int k = 0; k < 4; k++) {
      for (String i : new String[] {"-1", "0", "39", "40", "min", "max"}) {
        check.due(x, "lay(" + k + ", " + i + ", 1)", -11);
      }
    }
    for (int size : new int[] {0, 1, 40}) {
      check.due(x, "sheet(2, 1, " + size + ")", 1);
      check.due(x, "lay(2, -1, 1)", -12);
      check.due(x, "lay(2, " + size + ", 1)", -12);
      check.due(x, "lay(2, " + (size + 1) + ", 1)", -12);
      check.due(x, "lay(2, 256, 1)", -12);
      check.due(x, "lay(2, -256, 1)", -12);
      check.due(x, "lay(2, min, 1)", -12);
      check.due(x, "lay(2, max, 1)", -12);
      for (int i = 0; i < size; i++) {
        check.due(x, "lay(2, " + i + ", 1)", 1);
      }
    }
    check.due("another sheet has nothing still", x.lay(1, 0, 1), -11);
    check.due("what lay() finds is not of read()", x.torn(), 0);
    bad(check, x, "lay(?, 0, 1)", "-1", "4", "5", "32", "min", "max");
    bad(check, x, "lay(?, -1, 1)", "-1", "4", "5", "32", "min", "max");
  }

  /** What a cell becomes by v is told by whether it is an hour then, and by which. */
  private static void hourOf(Check check, AspenLine x, int lane, String v, int hour) {
    check.due(x, "lay(" + lane + ", 0, " + v + ")", 1);
    check.due("lane " + lane + ", " + v, x.read(lane, lane, 0, 1), hour < 0 ? -20 : 1);
    if (hour >= 0) {
      talk(check, x, 0, hour, 0, 1);
      check.due(x, "drop(0)", 1);
    }
  }

  static void promise43_theLowestBitsWithASign(Check check) {
    AspenLine x = check.told("plain;");
    for (int lane = 0; lane < 3; lane++) {
      sheet(check, x, lane, lane, 0, 0, 1);
    }
    String[] eightBits = {"256", "-256", "65536", "16777216", "min"};
    for (String v : eightBits) {
      hourOf(check, x, BYTES, v, 0);
    }
    hourOf(check, x, BYTES, "279", 23);
    hourOf(check, x, BYTES, "280", -1);
    hourOf(check, x, BYTES, "-233", 23);
    hourOf(check, x, BYTES, "255", -1);
    hourOf(check, x, BYTES, "128", -1);
    hourOf(check, x, BYTES, "127", -1);
    hourOf(check, x, BYTES, "-1", -1);
    hourOf(check, x, BYTES, "max", -1);
    String[] sixteenBits = {"65536", "-65536", "131072", "16777216", "min"};
    for (String v : sixteenBits) {
      hourOf(check, x, SHORTS, v, 0);
    }
    hourOf(check, x, SHORTS, "65559", 23);
    hourOf(check, x, SHORTS, "65560", -1);
    hourOf(check, x, SHORTS, "-65513", 23);
    hourOf(check, x, SHORTS, "256", -1);
    hourOf(check, x, SHORTS, "32768", -1);
    hourOf(check, x, SHORTS, "65535", -1);
    hourOf(check, x, SHORTS, "-1", -1);
    hourOf(check, x, SHORTS, "max", -1);
    for (String v : new String[] {"256", "65536", "16777216", "min", "max", "-1", "24"}) {
      hourOf(check, x, INTS, v, -1);
    }
    hourOf(check, x, INTS, "0", 0);
    hourOf(check, x, INTS, "23", 23);
  }

  static void promise43_theFirstCellAndTheLast(Check check) {
    AspenLine x = check.told(SIX);
    check.due(x, "sheet(3, 0, 40)", 1);
    check.due(x, "lay(3, 0, 7)", 1);
    check.due(x, "lay(3, 2, 8)", 1);
    check.due(x, "lay(3, 37, 9)", 1);
    check.due(x, "lay(3, 38, 5)", 1);
    check.due(x, "lay(3, 39, 10)", 1);
    check.due(x, "lay(3, 40, 1)", -12);
    check.due(x, "lay(3, -1, 1)", -12);
    check.due(x, "read(3, 0, 0, 1)", 1);
    check.due(x, "read(3, 0, 37, 1)", 1);
    talk(check, x, 0, 7, 0, 8);
    talk(check, x, 1, 9, 5, 10);
  }

  // ---- promise 44

  static void promise44_itsNumbers(Check check) {
    AspenLine x = check.told(SIX);
    fullSheet(check, x, 0, BYTES);
    bad(check, x, "read(?, 0, 0, 1)", "-1", "4", "5", "32", "min", "max");
    bad(check, x, "read(0, ?, 0, 1)", "-1", "3", "4", "32", "min", "max");
    bad(check, x, "read(0, 0, 0, ?)", "-1", "14", "15", "32", "256", "min", "max");
    bad(check, x, "read(0, 1, 0, ?)", "-1", "14");
    bad(check, x, "read(1, 1, 0, ?)", "-1", "14");
    bad(check, x, "read(?, 0, 0, 0)", "-1", "4");
    bad(check, x, "read(0, ?, 0, 0)", "-1", "3");
    check.due(x, "rule(3)", 0);
    check.due(x, "torn()", 0);
    check.due(x, "read(0, 0, 0, 6)", 6);
  }

  static void promise44_ofNone0AndNoFaultWhateverTheSheetIs(Check check) {
    AspenLine x = check.told("plain;");
    sheet(check, x, 1, SHORTS);
    sheet(check, x, 2, INTS, 99, 99, 99);
    for (int k = 0; k < 4; k++) {
      for (int lane = 0; lane < 3; lane++) {
        for (String f : new String[] {"0", "-1", "40", "min", "max"}) {
          x.read(3, 0, 0, 1);
          check.due("NULL before", x.torn(), NULL_FOUND);
          read(check, x, "read(" + k + ", " + lane + ", " + f + ", 0)", 0, 0);
        }
      }
    }
    AspenLine full = Worlds.FULL.make();
    read(check, full, "read(3, 0, 0, 0)", 0, 0);
    check.due(full, "rule(3)", 6);
    read(check, new AspenLine(), "read(0, 0, 0, 0)", 0, 0);
  }

  static void promise44_asManyAsThirteen(Check check) {
    AspenLine x = check.told(SIX);
    fullSheet(check, x, 2, INTS);
    check.due("the seventh is one too many", x.read(2, 2, 0, 13), -26);
    check.due("the seventh is one too many", x.read(2, 2, 0, 7), -26);
    check.due(x, "rule(3)", 0);
    check.due("six are not", x.read(2, 2, 0, 6), 6);
    check.due(x, "rule(3)", 6);
    talk(check, x, 0, 1, 2, 3);
    talk(check, x, 5, 1, 2, 3);
    talk(check, x, 4, 3, 4, 5);
    check.due("full before", x.read(2, 2, 0, 1), -20);
    check.due("full before", x.read(2, 2, 0, 13), -20);
    check.due(x, "drop(4)", 6);
    check.due("two may come", x.read(2, 2, 0, 3), -22);
    check.due(x, "rule(3)", 4);
    check.due("thirteen of which the first is torn", x.read(2, 2, 38, 13), 0);
    check.due("thirteen of which the second is torn", x.read(2, 2, 37, 13), 1);
    check.due("thirteen of which the third is torn", x.read(2, 2, 32, 13), -21);
    check.due(x, "drop(4)", 5);
    check.due("thirteen of which the third is torn", x.read(2, 2, 32, 13), 2);
    check.due(x, "torn()", INDEX_FOUND);
    check.due(x, "rule(3)", 6);
  }

  static void promise44_whereTheCellsBegin(Check check) {
    AspenLine x = check.told(SIX);
    fullSheet(check, x, 0, SHORTS);
    read(check, x, "read(0, 1, 0, 1)", 1, 0);
    read(check, x, "read(0, 1, 37, 1)", 1, 0);
    talk(check, x, 0, 1, 2, 3);
    talk(check, x, 1, 3, 4, 5);
    for (String f : new String[] {"38", "39", "40", "41", "42", "256", "65536", "max", "-1", "-2", "-3", "-4", "-39", "-256",
        "min", "2147483645", "2147483646", "-2147483647"}) {
      read(check, x, "read(0, 1, " + f + ", 1)", 0, INDEX_FOUND);
      read(check, x, "read(0, 1, " + f + ", 13)", 0, INDEX_FOUND);
    }
    check.due(x, "rule(3)", 2);
  }

  static void promise44_sheetsOf0To3Cells(Check check) {
    AspenLine x = check.told(SIX);
    for (int size = 0; size <= 3; size++) {
      check.due(x, "sheet(0, 0, " + size + ")", 1);
      for (int i = 0; i < size; i++) {
        check.due(x, "lay(0, " + i + ", 5)", 1);
      }
      read(check, x, "read(0, 0, 0, 1)", size == 3 ? 1 : 0, size == 3 ? 0 : INDEX_FOUND);
      read(check, x, "read(0, 0, 1, 1)", 0, INDEX_FOUND);
    }
    talk(check, x, 0, 5, 5, 5);
    read(check, x, "read(0, 0, 0, 2)", 1, INDEX_FOUND);
    check.due("the one that was whole came", x.rule(3), 2);
  }

  static void promise44_nullThenCastThenIndex(Check check) {
    AspenLine x = check.told("plain;");
    for (int lane = 0; lane < 3; lane++) {
      read(check, x, "read(0, " + lane + ", 0, 1)", 0, NULL_FOUND);
      read(check, x, "read(0, " + lane + ", -1, 13)", 0, NULL_FOUND);
      read(check, x, "read(0, " + lane + ", max, 1)", 0, NULL_FOUND);
    }
    for (int its = 0; its < 3; its++) {
      for (int size : new int[] {0, 2, 3}) {
        check.due(x, "sheet(0, " + its + ", " + size + ")", 1);
        for (int lane = 0; lane < 3; lane++) {
          if (lane != its) {
            read(check, x, "read(0, " + lane + ", 0, 1)", 0, CAST_FOUND);
            read(check, x, "read(0, " + lane + ", -1, 13)", 0, CAST_FOUND);
            read(check, x, "read(0, " + lane + ", max, 1)", 0, CAST_FOUND);
          }
        }
        read(check, x, "read(0, " + its + ", -1, 1)", 0, INDEX_FOUND);
        read(check, x, "read(0, " + its + ", " + size + ", 1)", 0, INDEX_FOUND);
      }
    }
    check.due(x, "rule(3)", 0);
  }

  static void promise44_whatBookRefusesInWhicheverWay(Check check) {
    AspenLine x = check.told("plain;plain;talk 9 0 1;");
    int[][] bad = {{-1, 0, 1}, {24, 0, 1}, {0, -1, 1}, {0, 2, 1}, {0, 0, 0}, {0, 0, 61}, {0, 0, -1}, {100, 100, 100}};
    for (int[] cells : bad) {
      sheet(check, x, 0, BYTES, cells);
      check.due("read", x.read(0, 0, 0, 1), -20);
      sheet(check, x, 0, BYTES, 23, 1, 60, cells[0], cells[1], cells[2], 0, 0, 1);
      check.due("read", x.read(0, 0, 0, 3), -21);
      check.due("read", x.read(0, 0, 0, 2), -21);
      check.due("none came", x.rule(3), 1);
      check.due("none of it is heard", x.rule(5), 0);
    }
    check.due("ahead of it one is whole", x.read(0, 0, 0, 1), 1);
    talk(check, x, 0, 9, 0, 1);
    talk(check, x, 1, 23, 1, 60);
    check.due("the least and the most", x.read(0, 0, 6, 1), 1);
    talk(check, x, 2, 0, 0, 1);
  }

  static void promise44_theFirstMet(Check check) {
    AspenLine x = check.told("plain;");
    // refused, and torn behind it
    sheet(check, x, 0, INTS, 1, 0, 1, 24, 0, 1, 1);
    check.due(x, "read(0, 2, 0, 3)", -21);
    check.due(x, "read(0, 2, 0, 13)", -21);
    check.due(x, "read(0, 2, 3, 2)", -20);
    check.due(x, "rule(3)", 0);
    check.due("it is not reached", x.read(0, 2, 0, 1), 1);
    // torn: its cells are not looked at, though they are bad ones
    sheet(check, x, 1, INTS, 1, 0, 1, 24, 9);
    read(check, x, "read(1, 2, 0, 2)", 1, INDEX_FOUND);
    read(check, x, "read(1, 2, 3, 1)", 0, INDEX_FOUND);
    check.due(x, "rule(3)", 2);
    // full: a torn one is not refused
    for (int k = 3; k <= 6; k++) {
      check.due(x, "book(1, 0, 1)", k);
    }
    read(check, x, "read(1, 2, 3, 1)", 0, INDEX_FOUND);
    check.due("whole, and one too many", x.read(1, 2, 0, 2), -20);
    read(check, x, "read(2, 2, 0, 2)", 0, NULL_FOUND);
    read(check, x, "read(1, 0, 0, 2)", 0, CAST_FOUND);
  }

  static void promise44_withoutTrees(Check check) {
    AspenLine x = new AspenLine();
    sheet(check, x, 0, BYTES, 0, 0, 1);
    check.due(x, "read(0, 0, 0, 1)", -20);
    read(check, x, "read(0, 0, 1, 1)", 0, INDEX_FOUND);
  }

  static void promise44_theSheetIsAsItWas(Check check) {
    AspenLine x = check.told("plain;");
    sheet(check, x, 0, BYTES, 3, 0, 7);
    for (int k = 0; k < 6; k++) {
      check.due(x, "read(0, 0, 0, 1)", 1);
      talk(check, x, k, 3, 0, 7);
    }
    check.due(x, "count(3)", 3);
  }

  // ---- promise 45

  static void promise45_ofTheLatestReadThatWasNotRefused(Check check) {
    AspenLine x = check.told("plain;");
    check.due("at first", x.torn(), 0);
    sheet(check, x, 0, BYTES, 3, 0, 7, 24, 0, 7);
    check.due("refused at first", x.read(0, 0, 3, 1), -20);
    check.due("which leaves it", x.torn(), 0);
    read(check, x, "read(1, 0, 0, 1)", 0, NULL_FOUND);
    read(check, x, "read(0, 0, 3, 1)", -20, NULL_FOUND);
    read(check, x, "read(0, 0, 4, 1)", 0, INDEX_FOUND);
    read(check, x, "read(0, 0, 0, 2)", -21, INDEX_FOUND);
    read(check, x, "read(0, 0, 0, 14)", BAD, INDEX_FOUND);
    read(check, x, "read(0, 3, 0, 1)", BAD, INDEX_FOUND);
    read(check, x, "read(4, 0, 0, 1)", BAD, INDEX_FOUND);
    read(check, x, "read(0, 1, 0, 1)", 0, CAST_FOUND);
    read(check, x, "read(0, 0, 0, -1)", BAD, CAST_FOUND);
    read(check, x, "read(0, 0, 0, 1)", 1, 0);
    read(check, x, "read(0, 0, 4, 1)", 0, INDEX_FOUND);
    read(check, x, "read(0, 0, 0, 0)", 0, 0);
  }

  static void promise45_nothingElseChangesIt(Check check) {
    AspenLine x = check.told("plain;", "keep(0)", "sheet(0, 0, 2)");
    read(check, x, "read(0, 0, 0, 1)", 0, INDEX_FOUND);
    for (String call : new String[] {"lay(1, 0, 1)", "lay(0, 2, 1)", "lay(0, 0, 1)", "sheet(1, 0, -1)", "sheet(0, 0, 41)",
        "sheet(0, 0, 40)", "back(0)", "back(1)", "keep(1)", "book(0, 0, 1)", "drop(0)", "torn()", "text()"}) {
      Calls.ask(x, call);
      check.due("torn() behind " + call, x.torn(), INDEX_FOUND);
    }
  }

  static void promise45_thoseThatCameAheadOfTheFault(Check check) {
    AspenLine x = check.told(SIX);
    fullSheet(check, x, 0, BYTES);
    read(check, x, "read(0, 0, 24, 6)", 5, INDEX_FOUND);
    check.due(x, "rule(3)", 5);
    check.due(x, "drop(0)", 5);
    read(check, x, "read(0, 0, 22, 6)", 6, 0);
    check.due(x, "drop(0)", 6);
    check.due("the sixth is whole, the seventh is torn", x.read(0, 0, 22, 7), 6);
    check.due(x, "torn()", INDEX_FOUND);
  }

  // ---- promise 46

  static void promise46_ofNothing(Check check) {
    AspenLine x = new AspenLine();
    int[] counts = {0, 0, 0, NONE, 0, 0};
    for (int what = 0; what <= 5; what++) {
      check.due(x, "count(" + what + ")", counts[what]);
    }
    bad(check, x, "count(?)", "-1", "6", "7", "32", "min", "max");
    check.due(x, "sheet(1, 0, 5)", 1);
    check.due("of sheet 0 alone", x.count(3), NONE);
    check.due(x, "sheet(0, 0, 0)", 1);
    check.due("no cells are not nothing", x.count(3), 0);
    check.due(x, "sheet(0, 2, 40)", 1);
    check.due(x, "count(3)", 40);
  }

  static void promise46_ofAllThereMayBe(Check check) {
    AspenLine x = check.told(SIX);
    for (int i = 1; i <= 9; i++) {
      check.due(x, "grow(0, 1, 9)", i);
      check.due(x, "count(4)", 9 * i);
    }
    for (int k = 1; k <= 6; k++) {
      check.due(x, "book(0, 5, 60)", k);
      check.due(x, "count(5)", 60 * k);
      check.due(x, "see(5, 120)", k);
      check.due(x, "count(0)", k);
    }
    check.due(x, "cut(8, true)", 0);
    check.due("of all roots, cut ones, too", x.count(4), 81);
    check.due(x, "stretch(8, 1)", 9);
    check.due(x, "count(4)", 73);
    check.due(x, "drop(1)", 6);
    check.due(x, "count(5)", 60);
    check.due(x, "keep(0)", 0);
    check.due(x, "keep(1)", 0);
    check.due(x, "count(1)", 2);
    for (int n = 1; n <= 160; n++) {
      check.due(x, "feed(32)", n);
    }
    check.due(x, "count(2)", 160);
    bad(check, x, "count(?)", "-1", "6", "7", "32", "min", "max");
  }
}
