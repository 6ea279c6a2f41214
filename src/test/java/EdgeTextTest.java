/** Promises 1 to 5 at their edges: a new object, the empty and the full TAPE, the FAULTS 1 to 6, each with its place. */
public final class EdgeTextTest {
  private static final int BAD = AspenLine.BAD;
  private static final int STATE = AspenLine.STATE;
  private static final int FULL = AspenLine.FULL;
  private static final int NONE = AspenLine.NONE;
  private static final int MOST_BYTES = 160;

  private static final String[] KINDS = {"plain", "silver", "old", "sapling"};
  /** A line of each sort, its tokens one blank apart. */
  private static final String[] LINES = {"plain ;", "silver ;", "old ;", "sapling ;", "root 0 1 2 ;", "wind 3 ;", "talk 4 0 6 ;"};

  public static void main(String[] args) {
    Tests.run(EdgeTextTest.class, 1, 5);
  }

  private static AspenLine fed(String text) {
    AspenLine x = new AspenLine();
    Check.feed(x, text);
    return x;
  }

  private static void lines(Check check, String text, int due) {
    AspenLine x = fed(text);
    check.due("text() of \"" + text + "\"", x.text(), due);
    check.due("fault() of \"" + text + "\"", x.fault(), 0);
    check.due("the tape behind \"" + text + "\"", x.count(2), 0);
  }

  private static void fault(Check check, String text, int which, int place) {
    AspenLine x = fed(text);
    check.due("text() of \"" + text + "\"", x.text(), -10 - place);
    check.due("fault() of \"" + text + "\"", x.fault(), which);
    check.due("the tape behind \"" + text + "\"", x.count(2), 0);
    check.due("trees told by \"" + text + "\"", x.rule(0), 0);
  }

  /** 160 bytes. */
  private static String filled(String text) {
    return text + " ".repeat(MOST_BYTES - text.length());
  }

  // ---- promise 1

  static void promise01_noTreesNoRootsNoTalks(Check check) {
    AspenLine x = new AspenLine();
    for (int what = 0; what <= 5; what++) {
      check.due(x, "rule(" + what + ")", 0);
    }
    for (String call : new String[] {"tree(0, 0)", "root(0, 0)", "talk(0, 0)", "far(0, 0)", "loud(0, 0, 1)", "graft(0, 0)",
        "stretch(0, 1)", "grow(0, 1, 1)", "cut(0, true)", "cut(0, false)", "book(0, 0, 1)", "shift(0, 0, 0)", "hears(0, 1)",
        "crossed(0, 1)", "least(0, 0)", "just(0, 0)", "from(1, 0)", "hush(0, 0, 1, 0)", "join(0, 1, 1, 0)", "hour(0, 0)",
        "kind(0, 0)", "luck(0, 0, 0, 1, 0)", "mean(0, 0, 1, 0)", "see(0, 0)", "breaths(0, 0)", "kinds(0)"}) {
      check.due(x, call, BAD);
    }
  }

  static void promise01_whatOneWithoutTreesAnswers(Check check) {
    AspenLine x = new AspenLine();
    check.due(x, "from(0, 0)", NONE);
    check.due(x, "from(0, 1)", NONE);
    check.due(x, "dear(0)", NONE);
    check.due(x, "dear(1)", NONE);
    check.due(x, "calm()", 0);
    check.due(x, "sayers()", 0);
    check.due(x, "ask(0)", NONE);
    check.due(x, "ask(1)", NONE);
    check.due(x, "drift(1, 1, 0)", STATE);
    check.due(x, "wind(20)", 0);
    check.due(x, "wind(0)", 20);
    check.due(x, "drop(0)", 0);
    check.due(x, "forget(0)", 0);
    check.due(x, "end(0)", 0);
    check.due(x, "keep(0)", 0);
    check.due(x, "back(0)", 0);
    check.due(x, "text()", 0);
  }

  static void promise01_nothingIsSeenOrKeptOrFoundAndSheetsHaveNothing(Check check) {
    AspenLine x = new AspenLine();
    check.due(x, "fault()", 0);
    check.due(x, "torn()", 0);
    check.due(x, "count(0)", 0);
    check.due(x, "count(1)", 0);
    check.due(x, "count(2)", 0);
    check.due(x, "count(3)", NONE);
    check.due(x, "count(4)", 0);
    check.due(x, "count(5)", 0);
    check.due(x, "back(0)", STATE);
    check.due(x, "back(1)", STATE);
    for (int k = 0; k < 4; k++) {
      check.due(x, "lay(" + k + ", 0, 0)", -11);
      for (int lane = 0; lane < 3; lane++) {
        check.due(x, "read(" + k + ", " + lane + ", 0, 1)", 0);
        check.due(x, "torn()", 1);
      }
    }
  }

  static void promise01_oneObjectKnowsNothingOfAnother(Check check) {
    AspenLine busy = Worlds.FULL.make();
    promise01_noTreesNoRootsNoTalks(check);
    promise01_nothingIsSeenOrKeptOrFoundAndSheetsHaveNothing(check);
    check.due(busy, "rule(0)", 6);
    check.due(busy, "rule(1)", 9);
    check.due(busy, "rule(3)", 6);
    check.due(busy, "count(0)", 6);
    check.due(busy, "count(1)", 2);
    check.due(busy, "count(2)", 160);
    check.due(busy, "count(3)", 40);
  }

  /** Nothing is promised behind the 512th call: the 512th answers still. */
  static void promise01_the512thCallAnswers(Check check) {
    AspenLine x = new AspenLine();
    for (int calls = 0; calls < 511; calls += 7) {
      Check.feed(x, "wind 5");
      x.text();
    }
    check.due(x, "text()", 0);
  }

  // ---- promise 2

  static void promise02_bytesAre0To127(Check check) {
    AspenLine x = new AspenLine();
    check.due(x, "feed(-1)", BAD);
    for (int c = 0; c <= 127; c++) {
      check.due(x, "feed(" + c + ")", c + 1);
    }
    for (String far : new String[] {"128", "129", "255", "256", "288", "65536", "-2", "-96", "-128", "-224", "min", "max"}) {
      check.due(x, "feed(" + far + ")", BAD);
    }
    check.due(x, "count(2)", 128);
  }

  static void promise02_the160thComesThe161stIsFull(Check check) {
    AspenLine x = new AspenLine();
    for (int n = 1; n <= MOST_BYTES; n++) {
      check.due(x, "feed(32)", n);
    }
    check.due(x, "feed(32)", FULL);
    check.due(x, "feed(0)", FULL);
    check.due(x, "feed(127)", FULL);
    check.due(x, "feed(128)", BAD);
    check.due(x, "feed(-1)", BAD);
    check.due(x, "count(2)", 160);
    check.due(x, "text()", 0);
  }

  static void promise02_whatIsTooMuchIsNotOnTheTape(Check check) {
    AspenLine x = fed(filled("plain;"));
    check.due(x, "feed(35)", FULL);
    check.due(x, "feed(35)", FULL);
    check.due(x, "text()", 1);
  }

  static void promise02_thereIsRoomAgainBehindEndAndText(Check check) {
    AspenLine x = fed(filled("plain;"));
    check.due(x, "end(159)", 160);
    check.due(x, "feed(32)", 160);
    check.due(x, "feed(32)", FULL);
    check.due(x, "text()", 1);
    check.due(x, "feed(32)", 1);
    Check.feed(x, "#");
    check.due(x, "text()", -11);
    check.due(x, "feed(32)", 1);
  }

  // ---- promise 3

  static void promise03_ofAnEmptyTape(Check check) {
    AspenLine x = new AspenLine();
    check.due(x, "end(-1)", BAD);
    check.due(x, "end(1)", BAD);
    check.due(x, "end(160)", BAD);
    check.due(x, "end(0)", 0);
    check.due(x, "count(2)", 0);
  }

  static void promise03_ofAFullTape(Check check) {
    AspenLine x = fed(filled("old;"));
    check.due(x, "end(161)", BAD);
    check.due(x, "end(max)", BAD);
    check.due(x, "end(min)", BAD);
    check.due(x, "end(160)", 160);
    check.due(x, "count(2)", 160);
    check.due(x, "end(159)", 160);
    check.due(x, "end(160)", BAD);
    check.due(x, "end(0)", 159);
    check.due(x, "end(1)", BAD);
    check.due(x, "count(2)", 0);
  }

  static void promise03_itsFirstBytesAreKept(Check check) {
    AspenLine x = fed("silver;plain;old");
    check.due(x, "end(17)", BAD);
    check.due(x, "end(13)", 16);
    check.due(x, "end(14)", BAD);
    Check.feed(x, "sapling;");
    check.due(x, "text()", 3);
    check.due(x, "tree(0, 0)", 1);
    check.due(x, "tree(1, 0)", 0);
    check.due(x, "tree(2, 0)", 3);
    x = fed("silver;plain;");
    check.due(x, "end(6)", 13);
    check.due(x, "text()", -16);
    check.due(x, "fault()", 2);
  }

  // ---- promise 4

  static void promise04_anEmptyTextIsTakenAndTellsThatThereIsNothing(Check check) {
    lines(check, "", 0);
    AspenLine x = Worlds.SOME.make();
    x.end(0);
    check.due(x, "text()", 0);
    for (int what = 0; what <= 5; what++) {
      check.due(x, "rule(" + what + ")", 0);
    }
    check.due(x, "count(0)", 0);
    check.due(x, "count(1)", 0);
  }

  static void promise04_blanksAlone(Check check) {
    lines(check, " ", 0);
    lines(check, " ".repeat(MOST_BYTES), 0);
  }

  static void promise04_blanksWhereTheyMayStand(Check check) {
    lines(check, "plain;", 1);
    lines(check, " plain;", 1);
    lines(check, "plain ;", 1);
    lines(check, "plain; ", 1);
    lines(check, "   plain   ;   old   ;   ", 2);
    lines(check, "wind7;", 1);
    lines(check, "wind  7  ;", 1);
    lines(check, "old;old;root0 1 2;", 3);
    lines(check, "old;old;root   0   1   2   ;", 3);
    lines(check, "old;talk0 0 1;", 2);
  }

  static void promise04_blanksThatMustStand(Check check) {
    fault(check, "plainold;", 2, 0);
    fault(check, "plain;oldold;", 2, 6);
    fault(check, "root01 2;", 2, 8);
    fault(check, "root0 12;", 3, 6);
    fault(check, "talk1 01;", 2, 8);
    fault(check, "talk101;", 1, 4);
  }

  static void promise04_aBlankInATokenMakesTwo(Check check) {
    fault(check, "pla in;", 2, 0);
    fault(check, "wind 1 0;", 2, 7);
    lines(check, "wind 10;", 1);
  }

  static void promise04_otherBlanksAreNone(Check check) {
    fault(check, "plain\t;", 1, 5);
    fault(check, "plain;\n", 1, 6);
    fault(check, "plain;\r", 1, 6);
    fault(check, "plain;\0", 1, 6);
    fault(check, "plain;" + (char) 31, 1, 6);
    fault(check, "plain;!", 1, 6);
  }

  static void promise04_numbersOfOneFigureOrTwo(Check check) {
    AspenLine x = fed("old;old;root 00 01 09;wind 05;talk 03 01 07;");
    check.due(x, "text()", 5);
    check.due(x, "root(0, 0)", 0);
    check.due(x, "root(0, 1)", 1);
    check.due(x, "root(0, 2)", 9);
    check.due(x, "rule(2)", 5);
    check.due(x, "talk(0, 0)", 3);
    check.due(x, "talk(0, 1)", 1);
    check.due(x, "talk(0, 2)", 7);
  }

  static void promise04_theLeastAndTheMostThatIsTold(Check check) {
    AspenLine x = fed("old;root 0 5 1;root 5 0 9;talk 0 0 1;talk 23 5 60;wind 20;plain;plain;silver;sapling;old;");
    check.due(x, "text()", 11);
    check.due(x, "root(0, 0)", 0);
    check.due(x, "root(0, 1)", 5);
    check.due(x, "root(0, 2)", 1);
    check.due(x, "root(1, 0)", 5);
    check.due(x, "root(1, 1)", 0);
    check.due(x, "root(1, 2)", 9);
    check.due(x, "talk(0, 0)", 0);
    check.due(x, "talk(0, 1)", 0);
    check.due(x, "talk(0, 2)", 1);
    check.due(x, "talk(1, 0)", 23);
    check.due(x, "talk(1, 1)", 5);
    check.due(x, "talk(1, 2)", 60);
    check.due(x, "rule(2)", 20);
    check.due(x, "tree(0, 0)", 2);
    check.due(x, "tree(3, 0)", 1);
    check.due(x, "tree(4, 0)", 3);
    check.due(x, "tree(5, 0)", 2);
    lines(check, "wind 0;", 1);
  }

  static void promise04_aFullTapeOfTwentyLines(Check check) {
    String text = "root0 1 1;".repeat(9) + "talk0 0 1;".repeat(4) + "wind0;" + "old;".repeat(6);
    check.due("bytes", text.length(), MOST_BYTES);
    AspenLine x = fed(text);
    check.due(x, "text()", 20);
    check.due(x, "fault()", 0);
    check.due(x, "rule(0)", 6);
    check.due(x, "rule(1)", 9);
    check.due(x, "rule(3)", 4);
    check.due(x, "count(2)", 0);
  }

  static void promise04_allTreesAllRootsAllTalks(Check check) {
    AspenLine x = fed("old;".repeat(6));
    check.due(x, "text()", 6);
    check.due(x, "rule(0)", 6);
    x = fed("root0 1 1;".repeat(9) + "talk0 0 1;".repeat(6) + "old;old;");
    check.due(x, "text()", 17);
    check.due(x, "rule(1)", 9);
    check.due(x, "rule(3)", 6);
  }

  static void promise04_placesFrom0To160(Check check) {
    fault(check, ";" + " ".repeat(159), 2, 0);
    fault(check, " ".repeat(159) + ";", 2, 159);
    fault(check, " ".repeat(159) + "#", 1, 159);
    fault(check, filled("plain"), 2, 160);
    fault(check, filled("plain;talk 0 1 1;"), 6, 160);
    fault(check, "9".repeat(MOST_BYTES), 1, 0);
    fault(check, "a".repeat(MOST_BYTES), 2, 0);
  }

  static void promise04_whatNoLineTellsIsAsAtFirst(Check check) {
    for (Worlds world : Worlds.values()) {
      AspenLine x = world.make();
      long torn = x.torn();
      x.end(0);
      x.wind(9);
      Check.feed(x, "old;");
      check.due(x, "text()", 1);
      int[] rules = {1, 0, 0, 0, 0, 0};
      for (int what = 0; what <= 5; what++) {
        check.due(x, "rule(" + what + ")", rules[what]);
      }
      check.due(x, "tree(0, 0)", 2);
      check.due(x, "tree(1, 0)", BAD);
      check.due(x, "root(0, 0)", BAD);
      check.due(x, "talk(0, 0)", BAD);
      check.due("nothing is seen", x.count(0), 0);
      check.due(x, "forget(1)", BAD);
      check.due("images are gone", x.count(1), 0);
      check.due(x, "back(0)", STATE);
      check.due(x, "back(1)", STATE);
      check.due(x, "keep(0)", 0);
      check.due(x, "keep(1)", 0);
      check.due("sheets stay", x.count(3), world.cells());
      check.due("what read() found stays", x.torn(), torn);
    }
  }

  static void promise04_noRootIsCut(Check check) {
    AspenLine x = check.told("old;old;root 0 1 2;root 0 1 3;", "cut(0, true)", "cut(1, true)");
    Check.feed(x, "old;old;root 0 1 2;");
    check.due(x, "text()", 3);
    check.due(x, "rule(4)", 0);
    check.due(x, "root(0, 3)", 0);
    check.due("a root more is whole", x.grow(0, 1, 1), 2);
    check.due(x, "root(1, 3)", 0);
  }

  static void promise04_sheetsStay(Check check) {
    AspenLine x = Worlds.SOME.make();
    x.end(0);
    Check.feed(x, "old;old;old;old;");
    check.due(x, "text()", 4);
    check.due(x, "read(0, 0, 0, 2)", 2);
    check.due(x, "talk(0, 0)", 5);
    check.due(x, "talk(0, 1)", 1);
    check.due(x, "talk(0, 2)", 9);
    check.due(x, "talk(1, 0)", 23);
    check.due(x, "talk(1, 1)", 3);
    check.due(x, "talk(1, 2)", 60);
    check.due(x, "read(1, 1, 0, 1)", 1);
    check.due(x, "lay(2, 0, 1)", -11);
    check.due(x, "lay(3, 0, 1)", -12);
  }

  static void promise04_theTapeIsEmptyBehindATextAndBehindAFault(Check check) {
    AspenLine x = fed("old;old;");
    check.due(x, "text()", 2);
    check.due(x, "count(2)", 0);
    check.due(x, "text()", 0);
    check.due(x, "rule(0)", 0);
    Check.feed(x, "old;old;#");
    check.due(x, "text()", -18);
    check.due(x, "count(2)", 0);
    Check.feed(x, "old;");
    check.due(x, "text()", 1);
    check.due(x, "rule(0)", 1);
  }

  // ---- promise 5

  static void promise05_theLatestTextAlone(Check check) {
    AspenLine x = new AspenLine();
    check.due("before any text", x.fault(), 0);
    Check.feed(x, "root 0 1 1;");
    check.due("before it is read", x.fault(), 0);
    check.due(x, "text()", -21);
    check.due(x, "fault()", 6);
    check.due("asked again", x.fault(), 6);
    Check.feed(x, "old;");
    check.due(x, "end(3)", 4);
    check.due(x, "end(4)", BAD);
    check.due("before the next is read", x.fault(), 6);
    check.due(x, "text()", -13);
    check.due(x, "fault()", 2);
    Check.feed(x, "old;");
    check.due(x, "text()", 1);
    check.due(x, "fault()", 0);
    Check.feed(x, "wind 21;");
    check.due(x, "text()", -15);
    check.due(x, "fault()", 3);
    check.due(x, "text()", 0);
    check.due("of an empty text", x.fault(), 0);
  }

  static void promise05_eachByteAlone(Check check) {
    for (int c = 0; c <= 127; c++) {
      String text = "" + (char) c;
      boolean token = c >= 'a' && c <= 'z' || c >= '0' && c <= '9' || c == ';';
      if (c == ' ') {
        lines(check, text, 0);
      } else {
        fault(check, text, token ? 2 : 1, 0);
      }
    }
  }

  static void promise05_fault1NoTokenAtAnyPlaceOfALine(Check check) {
    for (String line : LINES) {
      String[] tokens = line.split(" ");
      String text = "";
      for (String token : tokens) {
        fault(check, text + "#", 1, text.length());
        fault(check, text + "  #" + line, 1, text.length() + 2);
        fault(check, text + "#" + token, 1, text.length());
        text = text + token + (token.equals(";") ? "" : " ");
      }
      fault(check, "wind 0;# " + line, 1, 7);
    }
    for (char c : new char[] {'/', ':', '`', '{', 'A', 'Z', '-', ',', '.', 0, 31, '!', '<', 127}) {
      fault(check, "plain" + c, 1, 5);
      fault(check, "wind 1" + c, 1, 6);
      fault(check, "wind 1;" + c, 1, 7);
    }
  }

  static void promise05_fault1ANumberTooLong(Check check) {
    fault(check, "wind 000;", 1, 5);
    fault(check, "wind 001;", 1, 5);
    fault(check, "wind 100;", 1, 5);
    fault(check, "wind 1000;", 1, 5);
    fault(check, "wind020;", 1, 4);
    fault(check, "wind   999;", 1, 7);
    fault(check, "root 000 1 1;", 1, 5);
    fault(check, "root 0 001 1;", 1, 7);
    fault(check, "root 0 1 001;", 1, 9);
    fault(check, "talk 001 0 1;", 1, 5);
    fault(check, "talk 1 000 1;", 1, 7);
    fault(check, "talk 1 0 001;", 1, 9);
    fault(check, "123", 1, 0);
    fault(check, "plain 123;", 1, 6);
    fault(check, "plain;123;", 1, 6);
    fault(check, "wind 1 123;", 1, 7);
    // more figures than any number holds
    fault(check, "wind 4294967296;", 1, 5);
    fault(check, "wind " + "0".repeat(155), 1, 5);
  }

  /** Behind each token of each line each token that is not the next, and the end. */
  static void promise05_fault2ATokenThatCanNotStandThere(Check check) {
    for (String line : LINES) {
      String[] tokens = line.split(" ");
      String text = "";
      for (int i = 0; i < tokens.length; i++) {
        boolean number = Character.isDigit(tokens[i].charAt(0));
        boolean sign = tokens[i].equals(";");
        if (!number) {
          fault(check, text + "0", 2, text.length());
          fault(check, text + "  99", 2, text.length() + 2);
        }
        if (!sign) {
          fault(check, text + ";", 2, text.length());
          fault(check, text + "  ;old;", 2, text.length() + 2);
        }
        if (i > 0) {
          for (String name : new String[] {"old", "root", "wind", "talk", "birch", "x"}) {
            fault(check, text + name, 2, text.length());
          }
          fault(check, text, 2, text.length());
          fault(check, text + "   ", 2, text.length() + 3);
          fault(check, text.substring(0, text.length() - 1), 2, text.length() - 1);
        }
        text = text + tokens[i] + " ";
      }
    }
  }

  static void promise05_fault2ANameThatBeginsNoLine(Check check) {
    for (String name : new String[] {"plain", "silver", "old", "sapling", "root", "wind", "talk"}) {
      fault(check, name.substring(1) + ";", 2, 0);
      fault(check, name.substring(0, name.length() - 1) + ";", 2, 0);
      fault(check, name + "s;", 2, 0);
      fault(check, "a" + name + ";", 2, 0);
      fault(check, name + name + ";", 2, 0);
      for (int i = 0; i < name.length(); i++) {
        fault(check, "old; " + name.substring(0, i) + "q" + name.substring(i + 1) + ";", 2, 5);
      }
    }
    fault(check, "a;", 2, 0);
    fault(check, "z;", 2, 0);
    fault(check, "roots 0 1 1;", 2, 0);
  }

  static void promise05_fault2MoreThanALineHas(Check check) {
    fault(check, "plain 0;", 2, 6);
    fault(check, "plain;;", 2, 6);
    fault(check, "wind 1 1;", 2, 7);
    fault(check, "root 0 1 1 1;", 2, 11);
    fault(check, "talk 0 0 1 1;", 2, 11);
    fault(check, "talk 0 0 1;;", 2, 11);
  }

  private static void bounds(Check check, String before, String after, int least, int most) {
    for (int number = 0; number <= 99; number++) {
      String text = before + number + after;
      if (after.startsWith(" " + number + " ")) {
        // alike with the first tree: the second one's fault, told below
        continue;
      }
      if (number < least || number > most) {
        fault(check, text, 3, before.length());
        fault(check, before + " " + number + "#", 3, before.length() + 1);
      } else {
        lines(check, text, (int) text.chars().filter(c -> c == ';').count());
      }
    }
  }

  static void promise05_fault3EachNumberOutOfItsBounds(Check check) {
    String six = ";old;old;old;old;old;old;";
    bounds(check, "root ", " 5 1" + six, 0, 5);
    bounds(check, "root ", " 0 1" + six, 0, 5);
    bounds(check, "root 0 ", " 1" + six, 1, 5);
    bounds(check, "root 5 ", " 1" + six, 0, 4);
    bounds(check, "root 0 1 ", six, 1, 9);
    bounds(check, "wind ", ";", 0, 20);
    bounds(check, "talk ", " 0 1" + six, 0, 23);
    bounds(check, "talk 0 ", " 1" + six, 0, 5);
    bounds(check, "talk 0 0 ", six, 1, 60);
  }

  static void promise05_fault3TheSecondTreeAlikeWithTheFirst(Check check) {
    for (int t = 0; t <= 5; t++) {
      fault(check, "root " + t + " " + t + " 1;", 3, 7);
      fault(check, "root 0" + t + " " + t + " 1;", 3, 8);
      fault(check, "root " + t + "  0" + t, 3, 8);
    }
    lines(check, "old;old;root 1 0 1;", 3);
  }

  static void promise05_fault4WindForTheSecondTime(Check check) {
    fault(check, "wind 1;wind 1;", 4, 7);
    fault(check, "wind 0;wind 0;", 4, 7);
    fault(check, "wind 20;old;  wind 20;", 4, 14);
    fault(check, "wind 1;wind", 4, 7);
    fault(check, "wind 1;wind;", 4, 7);
    fault(check, "wind 1;wind 21;", 4, 7);
    fault(check, "wind 1;wind#", 4, 7);
    fault(check, "wind 1;wind wind", 4, 7);
    lines(check, "wind 1;", 1);
    // told once in each of two texts
    AspenLine x = fed("wind 1;");
    check.due(x, "text()", 1);
    Check.feed(x, "wind 2;");
    check.due(x, "text()", 1);
    check.due(x, "rule(2)", 2);
    // a text with a fault has told nothing
    Check.feed(x, "wind 3;#");
    check.due(x, "text()", -17);
    Check.feed(x, "wind 4;");
    check.due(x, "text()", 1);
    check.due(x, "rule(2)", 4);
  }

  static void promise05_fault5TheSeventhTree(Check check) {
    for (String kind : KINDS) {
      String six = "old;plain;silver;sapling;old;old;";
      fault(check, six + kind + ";", 5, 33);
      fault(check, six + "  " + kind, 5, 35);
      fault(check, six + kind + "#", 5, 33);
      fault(check, six + kind + " 1", 5, 33);
      lines(check, six.substring(0, 29) + kind + ";", 6);
    }
  }

  static void promise05_fault5TheTenthRoot(Check check) {
    String nine = "root0 1 1;".repeat(9);
    lines(check, nine + "old;old;", 11);
    fault(check, nine + "root 0 1 1;old;old;", 5, 90);
    fault(check, nine + "old;old;root", 5, 98);
    fault(check, nine + " root#", 5, 91);
    fault(check, nine + "root 6", 5, 90);
  }

  static void promise05_fault5TheSeventhTalk(Check check) {
    String six = "talk0 0 1;".repeat(6);
    lines(check, six + "old;", 7);
    fault(check, six + "talk 0 0 1;old;", 5, 60);
    fault(check, six + "old;talk", 5, 64);
    fault(check, six + " talk#", 5, 61);
    fault(check, six + "talk 24", 5, 60);
  }

  static void promise05_fault5EachIsCountedForItself(Check check) {
    AspenLine x = fed("old;".repeat(6) + "root0 1 1;".repeat(8) + "talk0 0 1;".repeat(5));
    check.due(x, "text()", 19);
    check.due(x, "rule(0)", 6);
    check.due(x, "rule(1)", 8);
    check.due(x, "rule(3)", 5);
    // what was there before does not count
    Check.feed(x, "old;".repeat(6));
    check.due(x, "text()", 6);
    check.due(x, "rule(0)", 6);
  }

  static void promise05_fault6ATreeThatThereIsNot(Check check) {
    fault(check, "root 0 1 1;", 6, 11);
    fault(check, "talk 0 0 1;", 6, 11);
    for (int trees = 0; trees < 6; trees++) {
      String before = "old;".repeat(trees);
      int there = Math.max(0, trees - 1);
      fault(check, before + "talk 0 " + trees + " 1;", 6, before.length() + 11);
      fault(check, before + "talk 0 5 1;", 6, before.length() + 11);
      fault(check, "talk 0 " + trees + " 1;" + before + " ", 6, before.length() + 12);
      if (trees > 0) {
        fault(check, before + "root " + there + " " + trees + " 1;", 6, before.length() + 11);
        fault(check, before + "root " + trees + " " + there + " 1;", 6, before.length() + 11);
        lines(check, before + "talk 0 " + there + " 1;", trees + 1);
        lines(check, "talk 0 " + there + " 1;" + before, trees + 1);
      }
    }
    lines(check, "old;".repeat(6) + "root 0 5 1;root 5 0 1;talk 0 5 1;", 9);
    // the first ones of all count
    fault(check, "old;old;root0 2 1;" + "root0 1 1;".repeat(8) + "talk0 0 1;", 6, 108);
    fault(check, "old;old;root2 0 1;" + "root0 1 1;".repeat(8) + "talk0 0 1;", 6, 108);
    fault(check, "old;old;root0 1 1;talk0 2 1;" + "talk0 1 1;".repeat(5), 6, 78);
    fault(check, "old;old;root0 2 1;talk0 1 1;", 6, 28);
    // the last ones of all count
    fault(check, "old;old;" + "root0 1 1;".repeat(8) + "root0 2 1;", 6, 98);
    fault(check, "old;old;" + "root0 1 1;".repeat(8) + "root2 0 1;", 6, 98);
    fault(check, "old;old;" + "talk0 1 1;".repeat(5) + "talk0 2 1;", 6, 68);
  }

  static void promise05_fault6TreesOfBeforeDoNotCount(Check check) {
    AspenLine x = check.told("old;old;old;old;old;old;");
    Check.feed(x, "talk 0 5 1;");
    check.due(x, "text()", -21);
    check.due(x, "fault()", 6);
    Check.feed(x, "old;root 0 1 1;");
    check.due(x, "text()", -25);
    check.due(x, "fault()", 6);
    check.due(x, "rule(0)", 6);
  }

  static void promise05_fault6BehindAllOthers(Check check) {
    fault(check, "root 0 1 1;#", 1, 11);
    fault(check, "root 0 1 1;birch;", 2, 11);
    fault(check, "root 0 1 1;old", 2, 14);
    fault(check, "talk 0 5 1;wind 21;", 3, 16);
    fault(check, "talk 0 5 1;wind 1;wind 1;", 4, 18);
    fault(check, "talk 0 5 1;" + "old;".repeat(6) + "old;", 5, 35);
    fault(check, "talk 0 5 1", 2, 10);
  }

  static void promise05_theFirstThatIsMet(Check check) {
    // a token is read only when the one before has been taken
    fault(check, "birch#", 2, 0);
    fault(check, "birch 999", 2, 0);
    fault(check, "root 6#", 3, 5);
    fault(check, "root 6 6 0;", 3, 5);
    fault(check, "root 0 0 999;", 3, 7);
    fault(check, "root 0 6;", 3, 7);
    fault(check, "root 0 1 0#", 3, 9);
    fault(check, "talk 24 6 61;", 3, 5);
    fault(check, "talk 23 6 61;", 3, 8);
    fault(check, "talk 23 5 61;", 3, 10);
    fault(check, "talk 23 5 60#", 1, 12);
    fault(check, "wind 21;wind 21;", 3, 5);
    fault(check, "wind 21", 3, 5);
    fault(check, "wind 20", 2, 7);
    fault(check, "wind 20#", 1, 7);
    fault(check, "plain 999", 1, 6);
    fault(check, "plain 99", 2, 6);
    fault(check, "plain;99", 2, 6);
    fault(check, "plain;999", 1, 6);
    fault(check, "plain;#;wind 1;wind 2;", 1, 6);
    fault(check, "plain;;#", 2, 6);
  }
}
