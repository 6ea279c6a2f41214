/** Promises 20 to 24: who hears what. */
public final class HearTest {
  private static final Check CHECK = new Check();
  private static final int BAD = AspenLine.BAD;
  private static final int NONE = AspenLine.NONE;

  public static void main(String[] args) {
    hears();
    crossed();
    leastAndJust();
    from();
    CHECK.close("HearTest");
  }

  /** Plain, silver and old in a row by roots of 2 and 3; a sapling alone; wind 2. */
  private static AspenLine row() {
    return CHECK.told("plain;silver;old;sapling;root 0 1 2;root 1 2 3;wind 2;");
  }

  private static void hears() {
    AspenLine x = row();
    CHECK.due("hears(0, 2)", x.hears(0, 2), 0);
    CHECK.due("hears(0, 3)", x.hears(0, 3), 1);
    CHECK.due("hears(0, 4)", x.hears(0, 4), 3);
    CHECK.due("hears(0, 10)", x.hears(0, 10), 3);
    CHECK.due("hears(0, 11)", x.hears(0, 11), 7);
    CHECK.due("hears(3, 2)", x.hears(3, 2), 0);
    CHECK.due("hears(3, 3)", x.hears(3, 3), 8);
    x.cut(0, true);
    CHECK.due("hears(0, 60)", x.hears(0, 60), 1);
    CHECK.due("hears(4, 1)", x.hears(4, 1), BAD);
    CHECK.due("hears(-1, 1)", x.hears(-1, 1), BAD);
    CHECK.due("hears(0, 0)", x.hears(0, 0), BAD);
    CHECK.due("hears(0, 61)", x.hears(0, 61), BAD);
  }

  private static void crossed() {
    AspenLine x = CHECK.told("plain;plain;plain;root 0 1 1;root 1 2 1;talk 3 0 2;talk 3 2 2;talk 4 0 2;talk 3 2 1;");
    CHECK.due("crossed(0, 1)", x.crossed(0, 1), 1);
    CHECK.due("crossed(1, 0)", x.crossed(1, 0), 1);
    CHECK.due("of two hours", x.crossed(0, 2), 0);
    CHECK.due("no tree hears both", x.crossed(0, 3), 0);
    CHECK.due("crossed(1, 3)", x.crossed(1, 3), 1);
    CHECK.due("alike", x.crossed(1, 1), BAD);
    CHECK.due("crossed(4, 0)", x.crossed(4, 0), BAD);
    CHECK.due("crossed(0, -1)", x.crossed(0, -1), BAD);
    CHECK.due("rule(5)", x.rule(5), 2);
  }

  private static void leastAndJust() {
    AspenLine x = row();
    CHECK.due("least(0, 0)", x.least(0, 0), 1);
    CHECK.due("least(0, 1)", x.least(0, 1), 3);
    CHECK.due("least(0, 2)", x.least(0, 2), 4);
    CHECK.due("least(0, 4)", x.least(0, 4), 11);
    CHECK.due("least(0, 5)", x.least(0, 5), 11);
    CHECK.due("least(0, 8)", x.least(0, 8), NONE);
    CHECK.due("least(0, 16)", x.least(0, 16), BAD);
    CHECK.due("least(0, -1)", x.least(0, -1), BAD);
    CHECK.due("least(4, 0)", x.least(4, 0), BAD);
    CHECK.due("just(0, 0)", x.just(0, 0), 1);
    CHECK.due("just(0, 1)", x.just(0, 1), 3);
    CHECK.due("just(0, 2)", x.just(0, 2), NONE);
    CHECK.due("just(0, 3)", x.just(0, 3), 4);
    CHECK.due("just(0, 7)", x.just(0, 7), 11);
    CHECK.due("just(1, 2)", x.just(1, 2), 2);
    CHECK.due("just(0, 16)", x.just(0, 16), BAD);
    CHECK.due("just(0, -1)", x.just(0, -1), BAD);
    CHECK.due("just(-1, 0)", x.just(-1, 0), BAD);
    AspenLine y = CHECK.told("old;plain;root 0 1 9;wind 20;");
    CHECK.due("the old one's own word", y.least(0, 1), 42);
    CHECK.due("from the plain one", y.least(1, 1), 51);
    y.stretch(0, 8);
    y.wind(0);
    CHECK.due("no breath that none hear", y.just(1, 0), NONE);
    CHECK.due("breath 1 at an old one", y.just(0, 0), 1);
    AspenLine z = CHECK.told("old;plain;old;plain;root 0 1 9;root 1 2 9;root 2 3 9;wind 20;");
    CHECK.due("breath 60, 18 far: 42", z.least(0, 4), 60);
    CHECK.due("breath 60, 27 far: 33", z.least(0, 8), 48);
    z.stretch(0, 9);
    z.graft(3, 2);
    CHECK.due("with none", z.least(0, 8), NONE);
  }

  private static void from() {
    AspenLine x = row();
    // To 0 and 1 both: from 0 by 4, from 1 by 5, from 2 by 8.
    CHECK.due("from(3, 0)", x.from(3, 0), 0);
    CHECK.due("from(3, 1)", x.from(3, 1), 4);
    CHECK.due("from(2, 0)", x.from(2, 0), 1);
    CHECK.due("from(2, 1)", x.from(2, 1), 2);
    CHECK.due("from(8, 0)", x.from(8, 0), 3);
    CHECK.due("from(8, 1)", x.from(8, 1), 3);
    CHECK.due("from(0, 0)", x.from(0, 0), 0);
    CHECK.due("from(0, 1)", x.from(0, 1), 1);
    CHECK.due("from(9, 0)", x.from(9, 0), NONE);
    CHECK.due("from(9, 1)", x.from(9, 1), NONE);
    CHECK.due("from(16, 0)", x.from(16, 0), BAD);
    CHECK.due("from(-1, 0)", x.from(-1, 0), BAD);
    CHECK.due("from(1, 2)", x.from(1, 2), BAD);
    CHECK.due("from(1, -1)", x.from(1, -1), BAD);
    AspenLine y = CHECK.told("plain;plain;plain;root 0 1 2;root 1 2 2;");
    CHECK.due("the middle one of three", y.from(5, 0), 1);
    CHECK.due("its breath", y.from(5, 1), 3);
    CHECK.due("of two the first", y.from(3, 0), 0);
    CHECK.due("without trees", new AspenLine().from(0, 0), NONE);
  }
}
