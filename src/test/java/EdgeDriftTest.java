import java.math.BigInteger;

/** Promise 39 at its edges: by a seed, 1 to 60 times, over one root and over nine. */
public final class EdgeDriftTest {
  private static final int BAD = AspenLine.BAD;
  private static final int STATE = AspenLine.STATE;
  private static final int MOST_TIMES = 60;
  private static final int[] SEEDS = {0, 1, -1, 12345, Integer.MAX_VALUE, Integer.MIN_VALUE, Integer.MIN_VALUE + 1, 65535, -65536};

  public static void main(String[] args) {
    Tests.run(EdgeDriftTest.class, 39, 39);
  }

  private static void bad(Check check, AspenLine x, String call, String... numbers) {
    for (String number : numbers) {
      check.due(x, call.replace("?", number), BAD);
    }
  }

  /** Does by cut() and wind() to an object what drift() tells of another one like it, with a seed that has no bounds. */
  private static void held(Check check, Worlds world, int talks, int seed, int times) {
    AspenLine asked = world.make();
    AspenLine done = world.make();
    asked.drop(talks);
    done.drop(talks);
    int roots = done.rule(1);
    int cut = done.rule(4);
    BigInteger s = BigInteger.valueOf(seed);
    long sum = 0;
    long last = 0;
    for (int n = 1; n <= times; n++) {
      s = s.multiply(BigInteger.valueOf(1103515245)).add(BigInteger.valueOf(12345));
      int got = s.shiftRight(16).mod(BigInteger.valueOf(32768)).intValueExact();
      cut ^= 1 << got % roots;
      done.cut(got % roots, (cut >> got % roots & 1) == 1);
      done.wind(got / 16 % 21);
      last = 0;
      for (int k = 0; k < talks; k++) {
        last += Integer.bitCount(done.talk(k, 3));
      }
      sum += last;
      if (n <= 3 || n == times) {
        check.due(asked, "drift(" + seed + ", " + n + ", 0)", sum);
        check.due(asked, "drift(" + seed + ", " + n + ", 1)", last);
      }
    }
  }

  static void promise39_theSeedWrapsAround(Check check) {
    for (int seed : SEEDS) {
      held(check, Worlds.SOME, 3, seed, MOST_TIMES);
      // two talks, so that no object gets more than 512 calls
      held(check, Worlds.FULL, 2, seed, MOST_TIMES - 10);
      held(check, Worlds.FULL, 6, seed, 25);
    }
  }

  static void promise39_times1To60(Check check) {
    AspenLine x = check.told("plain;plain;root 0 1 1;talk 1 0 60;");
    // of 0 there comes 12345, of which 0 is got: the root is cut, no wind
    check.due(x, "drift(0, 1, 0)", 1);
    check.due(x, "drift(0, 1, 1)", 1);
    // an even number of times the root is whole
    check.due(x, "drift(0, 60, 0)", 90);
    check.due(x, "drift(0, 60, 1)", 2);
    check.due(x, "drift(0, 59, 0)", 88);
    check.due(x, "drift(0, 59, 1)", 1);
    bad(check, x, "drift(0, ?, 0)", "0", "-1", "61", "62", "257", "min", "max");
    bad(check, x, "drift(0, 1, ?)", "-1", "2", "3", "32", "min", "max");
    check.due(x, "rule(2)", 0);
    check.due(x, "rule(4)", 0);
  }

  static void promise39_seedsAsGreatAndAsSmallAsMayBe(Check check) {
    // one root: cut behind the first time, whole behind the second one; breaths of 60 and 45 are heard by any wind
    AspenLine x = check.told("plain;plain;root 0 1 9;talk 1 0 60;talk 1 1 45;");
    for (String seed : new String[] {"min", "max", "-1", "0", "1"}) {
      check.due(x, "drift(" + seed + ", 1, 0)", 2);
      check.due(x, "drift(" + seed + ", 2, 0)", 6);
      check.due(x, "drift(" + seed + ", 60, 0)", 180);
      check.due(x, "drift(" + seed + ", 60, 1)", 4);
    }
  }

  static void promise39_noRoots(Check check) {
    for (AspenLine x : new AspenLine[] {new AspenLine(), check.told("plain;talk 1 0 60;")}) {
      check.due(x, "drift(0, 1, 0)", STATE);
      check.due(x, "drift(0, 60, 1)", STATE);
      check.due("bad goes first: times", x.drift(0, 0, 0), BAD);
      check.due("bad goes first: times", x.drift(0, 61, 0), BAD);
      check.due("bad goes first: what", x.drift(0, 1, 2), BAD);
      check.due("bad goes first: what", x.drift(0, 1, -1), BAD);
    }
  }

  static void promise39_aCutRootIsARoot(Check check) {
    AspenLine x = check.told("plain;plain;root 0 1 1;talk 1 0 60;", "cut(0, true)");
    check.due("it is whole behind the first time", x.drift(0, 1, 0), 2);
    check.due("cut behind the second one", x.drift(0, 2, 1), 1);
    check.due(x, "drift(0, 60, 1)", 1);
    check.due(x, "rule(4)", 1);
  }

  static void promise39_noTalks(Check check) {
    AspenLine x = check.told("plain;plain;root 0 1 1;");
    check.due(x, "drift(0, 60, 0)", 0);
    check.due(x, "drift(0, 60, 1)", 0);
  }

  static void promise39_theMostThatMayBeHeard(Check check) {
    AspenLine x = check.told("plain;plain;plain;plain;plain;plain;");
    for (int i = 0; i < 9; i++) {
      check.due(x, "grow(" + (i % 5) + ", " + (i % 5 + 1) + ", 1)", i + 1);
    }
    for (int k = 0; k < 6; k++) {
      check.due(x, "book(1, " + k + ", 60)", k + 1);
    }
    // but for the fifth root each has another one beside it: at first only root 4 parts the trees
    // of 1 there comes 1103527590, of which 16838 is got: root 8 of nine
    check.due(x, "drift(1, 1, 0)", 36);
    check.due(x, "drift(1, 1, 1)", 36);
  }
}
