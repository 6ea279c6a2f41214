/** Promises 33 to 38: who said it. */
public final class CallTest {
  private static final Check CHECK = new Check();
  private static final int BAD = AspenLine.BAD;
  private static final int NONE = AspenLine.NONE;

  public static void main(String[] args) {
    seeAndForget();
    sayersAndBreaths();
    kinds();
    ask();
    CHECK.close("CallTest");
  }

  private static AspenLine row() {
    return CHECK.told("plain;silver;old;root 0 1 2;root 1 2 3;");
  }

  private static void seeAndForget() {
    AspenLine x = row();
    CHECK.due("see(3, 0)", x.see(3, 0), BAD);
    CHECK.due("see(-1, 0)", x.see(-1, 0), BAD);
    CHECK.due("see(0, -1)", x.see(0, -1), BAD);
    CHECK.due("see(0, 121)", x.see(0, 121), BAD);
    CHECK.due("see(0, 0)", x.see(0, 0), 1);
    CHECK.due("see(2, 120)", x.see(2, 120), 2);
    for (int n = 3; n <= 6; n++) {
      CHECK.due("see to " + n, x.see(0, 0), n);
    }
    CHECK.due("see the 7th", x.see(0, 0), AspenLine.FULL);
    CHECK.due("see the 7th, bad", x.see(0, 121), BAD);
    CHECK.due("forget(7)", x.forget(7), BAD);
    CHECK.due("forget(-1)", x.forget(-1), BAD);
    CHECK.due("forget(6)", x.forget(6), 6);
    CHECK.due("forget(1)", x.forget(1), 6);
    CHECK.due("forget(2)", x.forget(2), BAD);
    CHECK.due("count(0)", x.count(0), 1);
    CHECK.due("the first is kept: 0 at 0", x.sayers(), 6);
    CHECK.due("forget(0)", x.forget(0), 1);
    CHECK.due("count(0)", x.count(0), 0);
  }

  private static void sayersAndBreaths() {
    AspenLine x = row();
    CHECK.due("nothing is seen", x.sayers(), 7);
    CHECK.due("nothing is seen: breaths", x.breaths(1, 0), 60);
    CHECK.due("nothing is seen: the least", x.breaths(1, 1), 1);
    x.see(2, 3);
    // 6 or 7 come to 2: breaths of 6, 7 there; 9, 10 at 1; 11, 12 at 0.
    CHECK.due("sayers", x.sayers(), 7);
    CHECK.due("breaths(0, 0)", x.breaths(0, 0), 2);
    CHECK.due("breaths(0, 1)", x.breaths(0, 1), 11);
    CHECK.due("breaths(2, 1)", x.breaths(2, 1), 6);
    x.see(1, 20);
    // 10 come to 1: of 10 at 1, of 12 at 0, of 13 at 2.
    CHECK.due("sayers of two", x.sayers(), 3);
    CHECK.due("breaths(2, 0)", x.breaths(2, 0), 0);
    CHECK.due("breaths(2, 1)", x.breaths(2, 1), NONE);
    CHECK.due("breaths(1, 1)", x.breaths(1, 1), 10);
    x.see(0, 8);
    CHECK.due("sayers of three", x.sayers(), 2);
    x.see(0, 9);
    CHECK.due("two that can not both be", x.sayers(), 0);
    CHECK.due("breaths(3, 0)", x.breaths(3, 0), BAD);
    CHECK.due("breaths(-1, 0)", x.breaths(-1, 0), BAD);
    CHECK.due("breaths(0, 2)", x.breaths(0, 2), BAD);
    x.forget(2);
    x.cut(1, true);
    CHECK.due("what is seen is seen of roots as they are", x.sayers(), 0);
    CHECK.due("without trees", new AspenLine().sayers(), 0);
  }

  private static void kinds() {
    AspenLine x = row();
    CHECK.due("nothing is seen", x.kinds(0), 15);
    x.see(0, 5);
    // silver is never odd
    CHECK.due("5 at 0", x.kinds(0), 13);
    CHECK.due("another tree's kind is all one", x.kinds(2), 15);
    x.see(1, 14);
    // 7 come to 1: of 7 at 1 (5 at 0), of 9 at 0 (9, 18, 4, 15), of 10 at 2 (5 at 0)
    CHECK.due("5 at 0, 14 at 1", x.kinds(0), 1);
    x.forget(0);
    x.see(0, 60);
    x.see(1, 116);
    CHECK.due("60 at 0, 116 at 1", x.kinds(0), 1);
    x.forget(1);
    x.see(0, 59);
    CHECK.due("none", x.kinds(0), 0);
    x.forget(0);
    x.see(0, 120);
    CHECK.due("silver alone", x.kinds(0), 2);
    x.forget(0);
    x.see(0, 117);
    CHECK.due("a sapling alone", x.kinds(0), 8);
    CHECK.due("nothing is changed", x.tree(0, 0), 0);
    CHECK.due("kinds(3)", x.kinds(3), BAD);
    CHECK.due("kinds(-1)", x.kinds(-1), BAD);
  }

  private static void ask() {
    AspenLine x = CHECK.told("plain;plain;plain;root 0 1 2;root 1 2 2;");
    // Nothing comes to 0 by 0 + 2 + 4 of them, to 1 by 2 + 0 + 2, to 2 by 4 + 2 + 0; all else by 3 at the most.
    CHECK.due("ask(0)", x.ask(0), 1);
    CHECK.due("ask(1)", x.ask(1), 4);
    x.see(1, 5);
    // left are (0, 7), (1, 5), (2, 7): at 0 it is 7, 3, 3; at 1 always 5; at 2 it is 3, 3, 7
    CHECK.due("ask(0) of three", x.ask(0), 0);
    CHECK.due("ask(1) of three", x.ask(1), 2);
    x.see(0, 3);
    CHECK.due("ask(0) of two", x.ask(0), 2);
    CHECK.due("ask(1) of two", x.ask(1), 1);
    x.see(2, 3);
    CHECK.due("one is left", x.ask(0), NONE);
    CHECK.due("one is left", x.ask(1), NONE);
    x.see(2, 4);
    CHECK.due("none is left", x.ask(0), NONE);
    AspenLine six = CHECK.told("old;old;old;old;old;old;");
    CHECK.due("six alike", six.ask(0), 0);
    CHECK.due("301 of 360 are left", six.ask(1), 301);
    six.see(0, 0);
    CHECK.due("301 at one of the others", six.ask(1), 242);
    six.see(1, 1);
    CHECK.due("two breaths are not told apart", six.ask(0), NONE);
    AspenLine one = CHECK.told("plain;");
    one.see(0, 0);
    CHECK.due("no call has been", one.ask(0), NONE);
    AspenLine silver = CHECK.told("silver;");
    CHECK.due("each breath is told apart", silver.ask(0), 0);
    CHECK.due("each breath is told apart", silver.ask(1), 1);
    // At an old tree alone: 0 by all 60 breaths at the other one and by one of its own.
    AspenLine old = CHECK.told("old;old;");
    CHECK.due("of two alike the first", old.ask(0), 0);
    CHECK.due("61 of 120 are left", old.ask(1), 61);
    CHECK.due("ask(2)", x.ask(2), BAD);
    CHECK.due("ask(-1)", x.ask(-1), BAD);
    CHECK.due("without trees", new AspenLine().ask(1), NONE);
  }
}
