/** Promises 25 to 30: what is best. */
public final class BestTest {
  private static final Check CHECK = new Check();
  private static final int BAD = AspenLine.BAD;
  private static final int NONE = AspenLine.NONE;

  public static void main(String[] args) {
    hush();
    join();
    dear();
    hour();
    kind();
    calm();
    CHECK.close("BestTest");
  }

  private static void hush() {
    // Two ways from 0 to 3: by 1 (roots 0, 1) and by 2 (roots 2, 3).
    AspenLine x = CHECK.told("plain;plain;plain;plain;root 0 1 1;root 1 3 1;root 0 2 2;root 2 3 2;");
    CHECK.due("both ways: how many", x.hush(0, 3, 9, 0), 2);
    CHECK.due("both ways: roots 0 and 2", x.hush(0, 3, 9, 1), 5);
    CHECK.due("the short way alone: how many", x.hush(0, 3, 4, 0), 1);
    CHECK.due("the short way alone: root 0", x.hush(0, 3, 4, 1), 1);
    CHECK.due("not heard as it is", x.hush(0, 3, 2, 0), 0);
    CHECK.due("not heard as it is: none", x.hush(0, 3, 2, 1), 0);
    CHECK.due("its own word", x.hush(0, 0, 1, 0), NONE);
    CHECK.due("its own word", x.hush(0, 0, 1, 1), NONE);
    x.cut(0, true);
    CHECK.due("one is cut: how many more", x.hush(0, 3, 9, 0), 1);
    CHECK.due("one is cut: root 2", x.hush(0, 3, 9, 1), 4);
    CHECK.due("nothing is changed", x.rule(4), 1);
    x.wind(1);
    CHECK.due("its own word, not heard", x.hush(0, 0, 1, 0), 0);
    CHECK.due("hush(4, 0, 1, 0)", x.hush(4, 0, 1, 0), BAD);
    CHECK.due("hush(0, -1, 1, 0)", x.hush(0, -1, 1, 0), BAD);
    CHECK.due("hush(0, 1, 0, 0)", x.hush(0, 1, 0, 0), BAD);
    CHECK.due("hush(0, 1, 61, 0)", x.hush(0, 1, 61, 0), BAD);
    CHECK.due("hush(0, 1, 1, 2)", x.hush(0, 1, 1, 2), BAD);
    // One root (the second) does what two of a lesser number would.
    AspenLine y = CHECK.told("plain;plain;plain;root 0 1 1;root 0 1 1;root 1 2 1;");
    CHECK.due("fewest go before the least number", y.hush(0, 2, 9, 1), 4);
  }

  private static void join() {
    AspenLine x = CHECK.told("plain;plain;plain;plain;plain;root 0 1 1;root 2 3 1;root 3 4 1;");
    // From 0 by 4 over a root of 1: to 2 and 3 by 0-2; to 3 and both its neighbours by 0-3.
    CHECK.due("join(0, 4, 1, 0)", x.join(0, 4, 1, 0), 2);
    CHECK.due("join(0, 4, 1, 1)", x.join(0, 4, 1, 1), 5);
    CHECK.due("join(0, 3, 1, 0)", x.join(0, 3, 1, 0), 3);
    CHECK.due("join(0, 3, 1, 1)", x.join(0, 3, 1, 1), 5);
    CHECK.due("join(4, 3, 2, 0)", x.join(4, 3, 2, 0), 4);
    CHECK.due("join(4, 3, 2, 1)", x.join(4, 3, 2, 1), 4);
    CHECK.due("none by a breath of 1", x.join(0, 1, 1, 0), NONE);
    CHECK.due("none by a breath of 1", x.join(0, 1, 1, 1), NONE);
    CHECK.due("none by a root too long", x.join(0, 4, 9, 0), NONE);
    CHECK.due("nothing is changed", x.rule(1), 3);
    CHECK.due("join(5, 1, 1, 0)", x.join(5, 1, 1, 0), BAD);
    CHECK.due("join(0, 0, 1, 0)", x.join(0, 0, 1, 0), BAD);
    CHECK.due("join(0, 61, 1, 0)", x.join(0, 61, 1, 0), BAD);
    CHECK.due("join(0, 1, 0, 0)", x.join(0, 1, 0, 0), BAD);
    CHECK.due("join(0, 1, 10, 0)", x.join(0, 1, 10, 0), BAD);
    CHECK.due("join(0, 1, 1, 2)", x.join(0, 1, 1, 2), BAD);
    for (int n = 4; n <= 9; n++) {
      x.grow(0, 1, 1);
    }
    CHECK.due("nine roots", x.join(0, 4, 1, 0), AspenLine.FULL);
    CHECK.due("nine roots, bad", x.join(0, 4, 1, 2), BAD);
    AspenLine y = CHECK.told("plain;plain;root 0 1 9;");
    CHECK.due("a shorter root beside one", y.join(1, 5, 2, 0), 1);
    CHECK.due("a shorter root beside one", y.join(1, 5, 2, 1), 2);
    AspenLine w = CHECK.told("plain;plain;plain;plain;root 2 3 1;");
    CHECK.due("two that both are not the first", w.join(1, 4, 2, 0), 12);
    CHECK.due("two that both are not the first", w.join(1, 4, 2, 1), 3);
    // What is told is 4 then, and no NONE.
    AspenLine z = CHECK.told("plain;plain;plain;plain;plain;plain;root 0 1 1;root 1 2 1;");
    CHECK.due("four hear then", z.join(0, 5, 9, 1), NONE);
    CHECK.due("four hear then", z.join(0, 5, 4, 1), 4);
    CHECK.due("four hear then", z.join(0, 5, 4, 0), 3);
  }

  private static void dear() {
    AspenLine x = CHECK.told("plain;plain;plain;root 0 1 1;root 1 2 1;root 0 1 1;talk 1 0 5;talk 2 2 2;");
    // As it is: 3 and 2 hear. Without root 1: 2 and 1. Without one of the twins as it is.
    CHECK.due("dear(0)", x.dear(0), 1);
    CHECK.due("dear(1)", x.dear(1), 3);
    CHECK.due("dear(2)", x.dear(2), BAD);
    CHECK.due("dear(-1)", x.dear(-1), BAD);
    CHECK.due("nothing is changed", x.rule(4), 0);
    x.cut(1, true);
    CHECK.due("cut roots are worth nothing", x.dear(0), NONE);
    CHECK.due("cut roots are worth nothing", x.dear(1), NONE);
    AspenLine y = CHECK.told("plain;plain;plain;root 0 1 1;root 0 2 1;talk 1 0 5;");
    CHECK.due("of two the first", y.dear(0), 0);
    CHECK.due("of two the first", y.dear(1), 2);
    y.drop(0);
    CHECK.due("without talks", y.dear(0), NONE);
    CHECK.due("without roots", new AspenLine().dear(1), NONE);
  }

  private static void hour() {
    AspenLine x = CHECK.told("plain;talk 0 0 1;talk 1 0 1;talk 1 0 1;talk 5 0 1;");
    CHECK.due("hour(0, 0)", x.hour(0, 0), 0);
    CHECK.due("hour(0, 1)", x.hour(0, 1), 1);
    CHECK.due("hour(2, 0)", x.hour(2, 0), 2);
    CHECK.due("hour(2, 1)", x.hour(2, 1), 0);
    x.shift(1, 0, 0);
    // 0, 0, 1, 5: the last one had better stay out of 0 and 1
    CHECK.due("hour(3, 0)", x.hour(3, 0), 2);
    CHECK.due("hour(3, 1)", x.hour(3, 1), 1);
    CHECK.due("nothing is changed", x.talk(3, 0), 5);
    CHECK.due("hour(4, 0)", x.hour(4, 0), BAD);
    CHECK.due("hour(-1, 0)", x.hour(-1, 0), BAD);
    CHECK.due("hour(0, 2)", x.hour(0, 2), BAD);
    x.wind(20);
    CHECK.due("nobody hears", x.hour(3, 0), 0);
  }

  private static void kind() {
    // At 1 there come 3 from either side: old it hears 1, plain 3, silver 6, sapling 3.
    AspenLine x = CHECK.told("plain;plain;plain;root 0 1 1;root 1 2 1;wind 1;talk 9 0 4;talk 9 2 4;");
    x.graft(0, 2);
    x.graft(2, 2);
    CHECK.due("as it is", x.rule(5), 1);
    CHECK.due("kind(1, 0)", x.kind(1, 0), 2);
    CHECK.due("kind(1, 1)", x.kind(1, 1), 0);
    CHECK.due("kind(0, 0)", x.kind(0, 0), 0);
    CHECK.due("kind(0, 1)", x.kind(0, 1), 1);
    CHECK.due("nothing is changed", x.tree(1, 0), 0);
    CHECK.due("kind(3, 0)", x.kind(3, 0), BAD);
    CHECK.due("kind(-1, 0)", x.kind(-1, 0), BAD);
    CHECK.due("kind(0, 2)", x.kind(0, 2), BAD);
    x.drop(0);
    CHECK.due("without talks", x.kind(1, 0), 0);
    CHECK.due("without talks", x.kind(1, 1), 0);
  }

  private static void calm() {
    AspenLine x = CHECK.told("plain;plain;root 0 1 3;talk 9 0 10;talk 9 1 9;wind 20;");
    // At 0 the second is 6 loud, at 1 the first is 7 loud.
    CHECK.due("calm", x.calm(), 7);
    CHECK.due("nothing is changed", x.rule(2), 20);
    x.shift(0, 0, 8);
    CHECK.due("of two hours", x.calm(), 0);
    x.shift(1, 0, 8);
    x.shift(0, 2, 24);
    x.shift(1, 2, 24);
    CHECK.due("by none", x.calm(), NONE);
    x.shift(0, 2, 23);
    x.shift(1, 2, 23);
    CHECK.due("by the most wind", x.calm(), 20);
    CHECK.due("without talks", new AspenLine().calm(), 0);
  }
}
