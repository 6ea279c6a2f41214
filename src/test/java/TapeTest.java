/** Promises 1 to 5: a new object, the tape, the text and its faults. */
public final class TapeTest {
  private static final Check CHECK = new Check();

  public static void main(String[] args) {
    newObject();
    tape();
    keepingTheFirst();
    textsTaken();
    faults();
    whatATextReplaces();
    whatAFaultLeaves();
    CHECK.close("TapeTest");
  }

  private static void newObject() {
    AspenLine x = new AspenLine();
    for (int what = 0; what <= 5; what++) {
      CHECK.due("new: rule(" + what + ")", x.rule(what), 0);
    }
    long[] counts = {0, 0, 0, AspenLine.NONE, 0, 0};
    for (int what = 0; what <= 5; what++) {
      CHECK.due("new: count(" + what + ")", x.count(what), counts[what]);
    }
    for (int k = 0; k <= 3; k++) {
      CHECK.due("new: lay(" + k + ")", x.lay(k, 0, 1), -11);
    }
    CHECK.due("new: fault", x.fault(), 0);
    CHECK.due("new: torn", x.torn(), 0);
    CHECK.due("new: tree", x.tree(0, 0), AspenLine.BAD);
    CHECK.due("new: talk", x.talk(0, 0), AspenLine.BAD);
    CHECK.due("new: back", x.back(0), AspenLine.STATE);
    CHECK.due("new: text", x.text(), 0);
  }

  private static void tape() {
    AspenLine x = new AspenLine();
    CHECK.due("feed(-1)", x.feed(-1), AspenLine.BAD);
    CHECK.due("feed(128)", x.feed(128), AspenLine.BAD);
    CHECK.due("feed(max)", x.feed(Integer.MAX_VALUE), AspenLine.BAD);
    CHECK.due("feed(0)", x.feed(0), 1);
    CHECK.due("feed(127)", x.feed(127), 2);
    for (int n = 3; n <= 160; n++) {
      CHECK.due("feed to " + n, x.feed(32), n);
    }
    CHECK.due("feed the 161st", x.feed(32), AspenLine.FULL);
    CHECK.due("feed the 161st, bad", x.feed(128), AspenLine.BAD);
    CHECK.due("count(2)", x.count(2), 160);
  }

  private static void keepingTheFirst() {
    AspenLine x = new AspenLine();
    Check.feed(x, "plain;old;");
    CHECK.due("end(11)", x.end(11), AspenLine.BAD);
    CHECK.due("end(-1)", x.end(-1), AspenLine.BAD);
    CHECK.due("end(10)", x.end(10), 10);
    CHECK.due("end(6)", x.end(6), 10);
    CHECK.due("end(7)", x.end(7), AspenLine.BAD);
    Check.feed(x, "silver;");
    CHECK.due("count(2)", x.count(2), 13);
    CHECK.due("text", x.text(), 2);
    CHECK.due("tree(1, 0)", x.tree(1, 0), 1);
    CHECK.due("end(0)", x.end(0), 0);
    CHECK.due("end(1)", x.end(1), AspenLine.BAD);
  }

  private static void textsTaken() {
    lines("", 0);
    lines("     ", 0);
    lines("plain;", 1);
    lines("  plain  ;  ", 1);
    lines("plain;silver;old;sapling;", 4);
    lines("wind7;", 1);
    lines("wind20 ;", 1);
    lines("root0 1 9;plain;plain;", 3);
    lines("root 00 01 09;plain;plain;", 3);
    lines("talk 23 0 60;talk 0 0 1;plain;", 3);
    lines("old;old;old;old;old;old;", 6);
    AspenLine x = CHECK.told("root 1 0 7;wind 05;sapling;old;talk 4 1 33;silver;plain;");
    long[] kinds = {3, 2, 1, 0};
    for (int t = 0; t < 4; t++) {
      CHECK.due("kind of tree " + t, x.tree(t, 0), kinds[t]);
    }
    CHECK.due("root(0, 0)", x.root(0, 0), 1);
    CHECK.due("root(0, 1)", x.root(0, 1), 0);
    CHECK.due("root(0, 2)", x.root(0, 2), 7);
    CHECK.due("root(0, 3)", x.root(0, 3), 0);
    CHECK.due("wind", x.rule(2), 5);
    CHECK.due("talk(0, 0)", x.talk(0, 0), 4);
    CHECK.due("talk(0, 1)", x.talk(0, 1), 1);
    CHECK.due("talk(0, 2)", x.talk(0, 2), 33);
    AspenLine full = CHECK.told("plain;plain;root 0 1 1;root 0 1 1;root 0 1 1;root 0 1 1;root 0 1 1;root 0 1 1;"
        + "root 0 1 1;root 0 1 1;root 0 1 1;wind 1;");
    CHECK.due("nine roots", full.rule(1), 9);
    full = CHECK.told("talk 1 0 1;talk 1 0 1;talk 1 0 1;talk 1 0 1;talk 1 0 1;talk 1 0 1;plain;");
    CHECK.due("six talks", full.rule(3), 6);
  }

  private static void lines(String text, int due) {
    AspenLine x = new AspenLine();
    Check.feed(x, text);
    CHECK.due("text() of \"" + text + "\"", x.text(), due);
    CHECK.due("fault() of \"" + text + "\"", x.fault(), 0);
    CHECK.due("count(2) behind \"" + text + "\"", x.count(2), 0);
  }

  private static void faults() {
    // 1: no token, a number that is too long
    fault("#", 0, 1);
    fault("plain;\t", 6, 1);
    fault("Plain;", 0, 1);
    fault("plain\n;", 5, 1);
    fault("wind 123;", 5, 1);
    fault("wind 007;", 5, 1);
    fault("plain 123", 6, 1);
    fault("plain;  9999", 8, 1);
    fault("plain;:", 6, 1);
    fault("root 0 1 -1;", 9, 1);
    fault("plain`;", 5, 1);
    fault("plain{;", 5, 1);
    fault("wind /;", 5, 1);
    // a token is read only when the one before has been taken
    fault("birch#", 0, 2);
    fault("wind 21#", 5, 3);
    fault("wind 1#", 6, 1);
    fault("root 0 0 123;", 7, 3);
    // 2: a token that can not stand there
    fault("birch;", 0, 2);
    fault("plainsilver;", 0, 2);
    fault("plai;", 0, 2);
    fault("blain;", 0, 2);
    fault("ploin;", 0, 2);
    fault("talc 0 0 1;", 0, 2);
    fault("plains;", 0, 2);
    fault("p lain;", 0, 2);
    fault("pla\nin;", 0, 2);
    fault("  birch;", 2, 2);
    fault(";", 0, 2);
    fault("plain;;", 6, 2);
    fault("7;", 0, 2);
    fault("plain 7;", 6, 2);
    fault("plain old;", 6, 2);
    fault("root;", 4, 2);
    fault("root 0;", 6, 2);
    fault("root 0 1;", 8, 2);
    fault("root 0 1 2 3;", 11, 2);
    fault("root a;", 5, 2);
    fault("wind;", 4, 2);
    fault("wind 1 2;", 7, 2);
    fault("wind 1 old;", 7, 2);
    fault("talk 1 0;", 8, 2);
    fault("talk 1 0 1 1;", 11, 2);
    fault("plain", 5, 2);
    fault("plain   ", 8, 2);
    fault("root 0 1 2", 10, 2);
    fault("talk", 4, 2);
    // 3: a number out of its bounds
    fault("root 6 0 1;", 5, 3);
    fault("root 0 6 1;", 7, 3);
    fault("root 5 5 1;", 7, 3);
    fault("root 0 1 0;", 9, 3);
    fault("root 0 1 10;", 9, 3);
    fault("wind 21;", 5, 3);
    fault("talk 24 0 1;", 5, 3);
    fault("talk 23 6 1;", 8, 3);
    fault("talk 0 0 0;", 9, 3);
    fault("talk 0 0 61;", 9, 3);
    // 4: wind for the second time
    fault("wind 1;wind", 7, 4);
    fault("wind 0; wind 0;", 8, 4);
    fault("wind 0;wind#", 7, 4);
    // 5: too many
    fault("old;old;old;old;old;old;old", 24, 5);
    fault("old;old;old;old;old;old; plain#", 25, 5);
    fault("root 0 1 1;root 0 1 1;root 0 1 1;root 0 1 1;root 0 1 1;root 0 1 1;root 0 1 1;root 0 1 1;root 0 1 1;root",
        99, 5);
    fault("talk 1 0 1;talk 1 0 1;talk 1 0 1;talk 1 0 1;talk 1 0 1;talk 1 0 1;talk", 66, 5);
    // 6: a tree that there is not, only behind all
    fault("root 0 1 1;", 11, 6);
    fault("plain;root 1 0 1; ", 18, 6);
    fault("plain;root 0 1 1;", 17, 6);
    fault("plain;talk 0 1 1;", 17, 6);
    fault("talk 0 0 1;", 11, 6);
    fault("root 0 1 1;birch;", 11, 2);
    fault("talk 0 5 1;#", 11, 1);
  }

  private static void fault(String text, int place, int which) {
    AspenLine x = new AspenLine();
    Check.feed(x, text);
    CHECK.due("text() of \"" + text + "\"", x.text(), -10 - place);
    CHECK.due("fault() of \"" + text + "\"", x.fault(), which);
    CHECK.due("count(2) behind \"" + text + "\"", x.count(2), 0);
  }

  private static void whatATextReplaces() {
    AspenLine x = busy();
    Check.feed(x, "old;silver;sapling;");
    CHECK.due("text in place of another", x.text(), 3);
    long[] rules = {3, 0, 0, 0, 0, 0};
    for (int what = 0; what <= 5; what++) {
      CHECK.due("replaced: rule(" + what + ")", x.rule(what), rules[what]);
    }
    CHECK.due("replaced: seen", x.count(0), 0);
    CHECK.due("replaced: images", x.count(1), 0);
    CHECK.due("replaced: back", x.back(1), AspenLine.STATE);
    CHECK.due("sheets stay", x.count(3), 5);
    CHECK.due("the sheet is as it was", x.read(0, 1, 0, 1), 1);
    CHECK.due("a talk of the sheet", x.talk(0, 2), 9);
    CHECK.due("an empty text tells all", x.text(), 0);
    CHECK.due("no trees", x.rule(0), 0);
    CHECK.due("no talks", x.rule(3), 0);
  }

  private static void whatAFaultLeaves() {
    AspenLine x = busy();
    Check.feed(x, "old;wind 3;root 0 1 1;");
    CHECK.due("text with a fault", x.text(), -32);
    CHECK.due("its fault", x.fault(), 6);
    long[] rules = {2, 1, 4, 1, 1, 0};
    for (int what = 0; what <= 5; what++) {
      CHECK.due("left: rule(" + what + ")", x.rule(what), rules[what]);
    }
    CHECK.due("left: seen", x.count(0), 1);
    CHECK.due("left: images", x.count(1), 1);
    CHECK.due("left: tape", x.count(2), 0);
    CHECK.due("left: cells", x.count(3), 5);
    CHECK.due("the next text", x.text(), 0);
    CHECK.due("no fault any more", x.fault(), 0);
  }

  private static AspenLine busy() {
    AspenLine x = CHECK.told("plain;plain;root 0 1 3;wind 4;talk 5 0 9;");
    x.cut(0, true);
    x.see(0, 7);
    x.keep(1);
    x.sheet(0, 1, 5);
    x.lay(0, 0, 3);
    x.lay(0, 1, 1);
    x.lay(0, 2, 9);
    return x;
  }
}
