/** Promises 6 to 19: what there is, and what is changed. */
public final class StateTest {
  private static final Check CHECK = new Check();
  private static final int BAD = AspenLine.BAD;

  public static void main(String[] args) {
    ruleAndTree();
    rootAndTalk();
    farAndLoud();
    graftAndStretch();
    growAndCut();
    windAndTalks();
    all();
    CHECK.close("StateTest");
  }

  /** 0 to 1 to 2 by roots of 2 and 3, twice from 0 to 1; 3 stands alone. */
  private static AspenLine row() {
    return CHECK.told("plain;silver;old;sapling;root 0 1 2;root 2 1 3;root 1 0 5;wind 2;"
        + "talk 7 0 6;talk 7 1 4;talk 8 3 3;");
  }

  private static void ruleAndTree() {
    AspenLine x = row();
    CHECK.due("trees", x.rule(0), 4);
    CHECK.due("roots", x.rule(1), 3);
    CHECK.due("wind", x.rule(2), 2);
    CHECK.due("talks", x.rule(3), 3);
    CHECK.due("cut", x.rule(4), 0);
    CHECK.due("crossed", x.rule(5), 1);
    CHECK.due("rule(6)", x.rule(6), BAD);
    CHECK.due("rule(-1)", x.rule(-1), BAD);
    CHECK.due("tree(0, 0)", x.tree(0, 0), 0);
    CHECK.due("tree(3, 0)", x.tree(3, 0), 3);
    CHECK.due("roots of 0", x.tree(0, 1), 2);
    CHECK.due("roots of 1", x.tree(1, 1), 3);
    CHECK.due("roots of 3", x.tree(3, 1), 0);
    CHECK.due("reach of 0", x.tree(0, 2), 7);
    CHECK.due("reach of 3", x.tree(3, 2), 8);
    // Talk 0: 6, 4 twice, 1 halved. Talk 1: 2, 4 twice, 1 halved. Talk 2: 3 twice less 3.
    CHECK.due("talks at 0", x.tree(0, 3), 1);
    CHECK.due("talks at 1", x.tree(1, 3), 3);
    CHECK.due("talks at 2", x.tree(2, 3), 0);
    CHECK.due("talks at 3", x.tree(3, 3), 4);
    x.cut(0, true);
    x.cut(1, true);
    CHECK.due("cut bits", x.rule(4), 3);
    CHECK.due("whole roots of 1", x.tree(1, 1), 1);
    CHECK.due("reach of 1", x.tree(1, 2), 3);
    CHECK.due("reach of 2", x.tree(2, 2), 4);
    CHECK.due("tree(4, 0)", x.tree(4, 0), BAD);
    CHECK.due("tree(-1, 0)", x.tree(-1, 0), BAD);
    CHECK.due("tree(0, 4)", x.tree(0, 4), BAD);
    CHECK.due("tree(0, -1)", x.tree(0, -1), BAD);
  }

  private static void rootAndTalk() {
    AspenLine x = row();
    CHECK.due("root(1, 0)", x.root(1, 0), 2);
    CHECK.due("root(1, 1)", x.root(1, 1), 1);
    CHECK.due("root(1, 2)", x.root(1, 2), 3);
    CHECK.due("root(1, 3)", x.root(1, 3), 0);
    x.cut(1, true);
    CHECK.due("root(1, 3), cut", x.root(1, 3), 1);
    CHECK.due("root(0, 3), whole", x.root(0, 3), 0);
    CHECK.due("root(3, 0)", x.root(3, 0), BAD);
    CHECK.due("root(-1, 0)", x.root(-1, 0), BAD);
    CHECK.due("root(0, 4)", x.root(0, 4), BAD);
    CHECK.due("root(0, -1)", x.root(0, -1), BAD);
    CHECK.due("talk(1, 0)", x.talk(1, 0), 7);
    CHECK.due("talk(1, 1)", x.talk(1, 1), 1);
    CHECK.due("talk(1, 2)", x.talk(1, 2), 4);
    CHECK.due("talk(1, 3)", x.talk(1, 3), 2);
    CHECK.due("talk(0, 3)", x.talk(0, 3), 3);
    CHECK.due("talk(3, 0)", x.talk(3, 0), BAD);
    CHECK.due("talk(-1, 0)", x.talk(-1, 0), BAD);
    CHECK.due("talk(0, 4)", x.talk(0, 4), BAD);
    CHECK.due("talk(0, -1)", x.talk(0, -1), BAD);
  }

  private static void farAndLoud() {
    AspenLine x = row();
    CHECK.due("far(0, 0)", x.far(0, 0), 0);
    CHECK.due("far(0, 1)", x.far(0, 1), 2);
    CHECK.due("far(0, 2)", x.far(0, 2), 5);
    CHECK.due("far(2, 0)", x.far(2, 0), 5);
    CHECK.due("far(3, 0)", x.far(3, 0), AspenLine.NONE);
    CHECK.due("far(3, 3)", x.far(3, 3), 0);
    CHECK.due("far(4, 0)", x.far(4, 0), BAD);
    CHECK.due("far(0, -1)", x.far(0, -1), BAD);
    x.cut(0, true);
    CHECK.due("far(0, 2), the longer way", x.far(0, 2), 8);
    x.cut(0, false);
    CHECK.due("loud(0, 0, 9)", x.loud(0, 0, 9), 9);
    CHECK.due("loud(0, 1, 9)", x.loud(0, 1, 9), 14);
    CHECK.due("loud(0, 2, 10)", x.loud(0, 2, 10), 2);
    CHECK.due("loud(0, 2, 5)", x.loud(0, 2, 5), 0);
    CHECK.due("loud(0, 2, 1)", x.loud(0, 2, 1), 0);
    CHECK.due("loud(0, 3, 60)", x.loud(0, 3, 60), 0);
    CHECK.due("loud(3, 3, 1)", x.loud(3, 3, 1), 0);
    CHECK.due("loud(3, 3, 2)", x.loud(3, 3, 2), 1);
    CHECK.due("loud(3, 3, 60)", x.loud(3, 3, 60), 117);
    CHECK.due("loud(1, 1, 60)", x.loud(1, 1, 60), 120);
    CHECK.due("loud(2, 2, 5)", x.loud(2, 2, 5), 2);
    CHECK.due("loud(0, 0, 0)", x.loud(0, 0, 0), BAD);
    CHECK.due("loud(0, 0, 61)", x.loud(0, 0, 61), BAD);
    CHECK.due("loud(4, 0, 1)", x.loud(4, 0, 1), BAD);
    CHECK.due("loud(0, 4, 1)", x.loud(0, 4, 1), BAD);
    // the shortest way has more roots, told in an order that is against it
    AspenLine y = CHECK.told("old;old;old;old;old;old;root 4 5 1;root 3 4 1;root 2 3 1;root 1 2 1;root 0 1 1;root 0 5 6;");
    CHECK.due("far(0, 5)", y.far(0, 5), 5);
    CHECK.due("far(5, 0)", y.far(5, 0), 5);
  }

  private static void graftAndStretch() {
    AspenLine x = row();
    CHECK.due("graft(1, 3)", x.graft(1, 3), 1);
    CHECK.due("graft(1, 0)", x.graft(1, 0), 3);
    CHECK.due("tree(1, 0)", x.tree(1, 0), 0);
    CHECK.due("graft(1, 4)", x.graft(1, 4), BAD);
    CHECK.due("graft(1, -1)", x.graft(1, -1), BAD);
    CHECK.due("graft(4, 0)", x.graft(4, 0), BAD);
    CHECK.due("stretch(0, 9)", x.stretch(0, 9), 2);
    CHECK.due("stretch(0, 1)", x.stretch(0, 1), 9);
    CHECK.due("root(0, 2)", x.root(0, 2), 1);
    CHECK.due("stretch(0, 10)", x.stretch(0, 10), BAD);
    CHECK.due("stretch(0, 0)", x.stretch(0, 0), BAD);
    CHECK.due("stretch(3, 1)", x.stretch(3, 1), BAD);
    CHECK.due("stretch(-1, 1)", x.stretch(-1, 1), BAD);
    CHECK.due("far(0, 1) stretched", x.far(0, 1), 1);
  }

  private static void growAndCut() {
    AspenLine x = row();
    CHECK.due("grow(3, 3, 1)", x.grow(3, 3, 1), BAD);
    CHECK.due("grow(0, 4, 1)", x.grow(0, 4, 1), BAD);
    CHECK.due("grow(-1, 0, 1)", x.grow(-1, 0, 1), BAD);
    CHECK.due("grow(0, 1, 0)", x.grow(0, 1, 0), BAD);
    CHECK.due("grow(0, 1, 10)", x.grow(0, 1, 10), BAD);
    for (int n = 4; n <= 9; n++) {
      CHECK.due("grow to " + n, x.grow(3, 2, n), n);
    }
    CHECK.due("grow the 10th", x.grow(3, 2, 1), AspenLine.FULL);
    CHECK.due("grow the 10th, alike", x.grow(3, 3, 1), BAD);
    CHECK.due("root(3, 0)", x.root(3, 0), 3);
    CHECK.due("root(3, 1)", x.root(3, 1), 2);
    CHECK.due("root(3, 3)", x.root(3, 3), 0);
    CHECK.due("far(3, 2)", x.far(3, 2), 4);
    CHECK.due("cut(8, true)", x.cut(8, true), 0);
    CHECK.due("cut(8, true) again", x.cut(8, true), 1);
    CHECK.due("rule(4)", x.rule(4), 256);
    CHECK.due("cut(8, false)", x.cut(8, false), 1);
    CHECK.due("cut(8, false) again", x.cut(8, false), 0);
    CHECK.due("rule(4) whole", x.rule(4), 0);
    CHECK.due("cut(9, true)", x.cut(9, true), BAD);
    CHECK.due("cut(-1, true)", x.cut(-1, true), BAD);
  }

  private static void windAndTalks() {
    AspenLine x = row();
    CHECK.due("wind(20)", x.wind(20), 2);
    CHECK.due("wind(0)", x.wind(0), 20);
    CHECK.due("wind(21)", x.wind(21), BAD);
    CHECK.due("wind(-1)", x.wind(-1), BAD);
    CHECK.due("rule(2)", x.rule(2), 0);
    CHECK.due("book(24, 0, 1)", x.book(24, 0, 1), BAD);
    CHECK.due("book(-1, 0, 1)", x.book(-1, 0, 1), BAD);
    CHECK.due("book(0, 4, 1)", x.book(0, 4, 1), BAD);
    CHECK.due("book(0, 0, 0)", x.book(0, 0, 0), BAD);
    CHECK.due("book(0, 0, 61)", x.book(0, 0, 61), BAD);
    CHECK.due("book(23, 3, 60)", x.book(23, 3, 60), 4);
    CHECK.due("book(0, 0, 1)", x.book(0, 0, 1), 5);
    CHECK.due("book(0, 0, 1)", x.book(0, 0, 1), 6);
    CHECK.due("book the 7th", x.book(0, 0, 1), AspenLine.FULL);
    CHECK.due("book the 7th, bad", x.book(0, 0, 61), BAD);
    CHECK.due("talk(3, 0)", x.talk(3, 0), 23);
    CHECK.due("talk(3, 1)", x.talk(3, 1), 3);
    CHECK.due("talk(3, 2)", x.talk(3, 2), 60);
    CHECK.due("shift(3, 0, 0)", x.shift(3, 0, 0), 23);
    CHECK.due("shift(3, 0, 23)", x.shift(3, 0, 23), 0);
    CHECK.due("shift(3, 0, 24)", x.shift(3, 0, 24), BAD);
    CHECK.due("shift(3, 0, -1)", x.shift(3, 0, -1), BAD);
    CHECK.due("shift(3, 1, 0)", x.shift(3, 1, 0), 3);
    CHECK.due("shift(3, 1, 4)", x.shift(3, 1, 4), BAD);
    CHECK.due("shift(3, 2, 1)", x.shift(3, 2, 1), 60);
    CHECK.due("shift(3, 2, 0)", x.shift(3, 2, 0), BAD);
    CHECK.due("shift(3, 2, 61)", x.shift(3, 2, 61), BAD);
    CHECK.due("shift(3, 3, 1)", x.shift(3, 3, 1), BAD);
    CHECK.due("shift(6, 0, 1)", x.shift(6, 0, 1), BAD);
    CHECK.due("talk(3, 1) shifted", x.talk(3, 1), 0);
    CHECK.due("drop(7)", x.drop(7), BAD);
    CHECK.due("drop(-1)", x.drop(-1), BAD);
    CHECK.due("drop(6)", x.drop(6), 6);
    CHECK.due("drop(2)", x.drop(2), 6);
    CHECK.due("drop(3)", x.drop(3), BAD);
    CHECK.due("talk(2, 0)", x.talk(2, 0), BAD);
    CHECK.due("talk(1, 2)", x.talk(1, 2), 4);
    CHECK.due("drop(0)", x.drop(0), 2);
    CHECK.due("rule(3)", x.rule(3), 0);
  }

  /** As many trees, roots and talks as there may be. */
  private static void all() {
    AspenLine x = CHECK.told("plain;plain;plain;plain;plain;plain;root 0 1 1;root 1 2 2;root 2 3 3;root 3 4 4;root 4 5 5;");
    x.grow(0, 5, 9);
    x.grow(0, 5, 9);
    x.grow(0, 5, 9);
    x.grow(0, 5, 9);
    for (int k = 0; k < 6; k++) {
      CHECK.due("book to " + (k + 1), x.book(3, k, 1), k + 1);
    }
    CHECK.due("reach", x.tree(5, 2), 63);
    CHECK.due("roots of 5", x.tree(5, 1), 5);
    CHECK.due("talks at 5", x.tree(5, 3), 32);
    CHECK.due("none crossed", x.rule(5), 0);
    CHECK.due("lengths", x.count(4), 51);
    CHECK.due("breaths", x.count(5), 6);
    CHECK.due("far(0, 5)", x.far(0, 5), 9);
    CHECK.due("far(1, 5)", x.far(1, 5), 10);
    x.shift(5, 2, 60);
    x.shift(4, 2, 60);
    CHECK.due("two with all", x.rule(5), 9);
    CHECK.due("talks at 0", x.tree(0, 3), 49);
    CHECK.due("roots are worth nothing", x.dear(0), AspenLine.NONE);
    x.drop(5);
    CHECK.due("one with all", x.rule(5), 4);
    CHECK.due("talks at 0", x.tree(0, 3), 17);
    CHECK.due("breaths", x.count(5), 64);
  }
}
