import java.util.ArrayList;
import java.util.List;

/**
 * Each call with each of its numbers out of its bounds, just outside and far outside: BAD, whatever else would fit;
 * and what is refused, or only asked, changes nothing (but THE TAPE, as told).
 */
public final class RefusedTest {
  private static final int BAD = AspenLine.BAD;
  private static final int STATE = AspenLine.STATE;
  private static final int FULL = AspenLine.FULL;
  private static final int NONE = AspenLine.NONE;

  public static void main(String[] args) {
    Tests.run(RefusedTest.class, 1, 46);
  }

  /** Numbers that are not from least to most, some of which a mask, a shift or a narrower lane would bring back inside. */
  private static List<Integer> outside(int least, int most) {
    List<Integer> numbers = new ArrayList<>();
    for (int far : new int[] {1, 2, 9, 32, 64, 128, 256, 65536, 1 << 24}) {
      numbers.add(least - far);
      numbers.add(most + far);
      numbers.add(least + Math.max(far, most - least + 1));
    }
    for (int number : new int[] {Integer.MIN_VALUE, Integer.MIN_VALUE + 1, Integer.MAX_VALUE, Integer.MAX_VALUE - 1}) {
      numbers.add(number);
    }
    if (most < least) {
      numbers.add(least);
    }
    return numbers;
  }

  /** The number told as ? is told from least to most in a world; with most below least nothing is told. */
  private static void bounds(Check check, Worlds world, String call, int least, int most) {
    List<String> calls = new ArrayList<>();
    for (int number : outside(least, most)) {
      String outside = call.replace("?", "" + number);
      calls.add(outside);
      AspenLine x = world.make();
      check.due(world + ", " + outside, Calls.ask(x, outside), BAD);
    }
    world.stays(check, calls);
    for (int number : new int[] {least, most}) {
      String inside = call.replace("?", "" + number);
      if (most >= least) {
        AspenLine x = world.make();
        check.due(world + ", " + inside + " is not BAD", Calls.ask(x, inside) != BAD);
      }
    }
  }

  private static void bounds(Check check, String call, int least, int most) {
    for (Worlds world : Worlds.values()) {
      bounds(check, world, call, least, most);
    }
  }

  private enum Thing { TREE, ROOT, TALK }

  private static int last(Worlds world, Thing thing) {
    return switch (thing) {
      case TREE -> world.trees() - 1;
      case ROOT -> world.roots() - 1;
      case TALK -> world.talks() - 1;
    };
  }

  /** ? is the number of a thing. */
  private static void things(Check check, String call, Thing thing) {
    for (Worlds world : Worlds.values()) {
      bounds(check, world, call, 0, last(world, thing));
    }
  }

  /** ? is from least to most, where there is a thing 0 of that sort (BAD, whatever it is, where there is none). */
  private static void ofThings(Check check, String call, Thing thing, int least, int most) {
    for (Worlds world : Worlds.values()) {
      bounds(check, world, call, least, last(world, thing) < 0 ? least - 1 : most);
    }
  }

  /** ? are bits of trees; where there are no trees, a call that is of a tree is BAD by that. */
  private static void treeBits(Check check, String call, boolean ofTree) {
    for (Worlds world : Worlds.values()) {
      int none = ofTree && world.trees() == 0 ? -1 : 0;
      bounds(check, world, call, 0, none + (1 << world.trees()) - 1);
    }
  }

  /** Refused in a world by that answer, and all stays. */
  private static void refused(Check check, Worlds world, String call, long answer) {
    AspenLine x = world.make();
    check.due(world + ", " + call, Calls.ask(x, call), answer);
    world.stays(check, List.of(call));
  }

  private static void onlyAsked(Check check, String... calls) {
    for (Worlds world : Worlds.values()) {
      world.stays(check, List.of(calls));
    }
  }

  /** As told by the worlds: else the bounds below would be others. */
  static void promise01_theWorldsAreWhatTheyAreSaidToBe(Check check) {
    for (Worlds world : Worlds.values()) {
      AspenLine x = world.make();
      check.due(x, "rule(0)", world.trees());
      check.due(x, "rule(1)", world.roots());
      check.due(x, "rule(3)", world.talks());
      check.due(x, "count(0)", world.sightings());
      check.due(x, "count(1)", world.images());
      check.due(x, "count(2)", world.bytes());
      check.due(x, "count(3)", world.cells());
    }
  }

  static void promise02_feedTakesBytes0To127(Check check) {
    bounds(check, "feed(?)", 0, 127);
  }

  static void promise02_aFullTapeStays(Check check) {
    refused(check, Worlds.FULL, "feed(32)", FULL);
    refused(check, Worlds.FULL, "feed(0)", FULL);
    refused(check, Worlds.FULL, "feed(127)", FULL);
    refused(check, Worlds.FULL, "feed(128)", BAD);
    refused(check, Worlds.FULL, "feed(-1)", BAD);
  }

  static void promise03_endKeepsNoMoreThanThereIs(Check check) {
    for (Worlds world : Worlds.values()) {
      bounds(check, world, "end(?)", 0, world.bytes());
      world.stays(check, List.of("end(" + world.bytes() + ")"));
    }
  }

  static void promise04_whatWasToldStaysByEachFault(Check check) {
    String nineRoots = "root 0 1 1;".repeat(9).replace("root ", "root");
    for (Worlds world : Worlds.values()) {
      world.staysButForTheTape(check, "old;#", -14, 1);
      world.staysButForTheTape(check, "old;wind 100;", -19, 1);
      world.staysButForTheTape(check, "old;wind 9;birch;", -21, 2);
      world.staysButForTheTape(check, "old;wind 9", -20, 2);
      world.staysButForTheTape(check, "old;wind 21;", -19, 3);
      world.staysButForTheTape(check, "old;old;root 1 1 1;", -25, 3);
      world.staysButForTheTape(check, "old;wind 9;wind 9;", -21, 4);
      world.staysButForTheTape(check, "old;old;old;old;old;old;old;", -34, 5);
      world.staysButForTheTape(check, nineRoots + "root", -100, 5);
      world.staysButForTheTape(check, "talk1 0 1;".repeat(6) + "talk", -70, 5);
      world.staysButForTheTape(check, "old;talk 0 1 1;", -25, 6);
      world.staysButForTheTape(check, "old;wind 9;root 0 1 1;", -32, 6);
    }
  }

  static void promise05_faultChangesNothing(Check check) {
    onlyAsked(check, "fault()");
  }

  static void promise06_ruleIsOf0To5(Check check) {
    bounds(check, "rule(?)", 0, 5);
    onlyAsked(check, "rule(0)", "rule(1)", "rule(2)", "rule(3)", "rule(4)", "rule(5)");
  }

  static void promise07_treeIsOfATreeAnd0To3(Check check) {
    for (int what = 0; what < 4; what++) {
      things(check, "tree(?, " + what + ")", Thing.TREE);
    }
    ofThings(check, "tree(0, ?)", Thing.TREE, 0, 3);
    onlyAsked(check, "tree(0, 0)", "tree(1, 1)", "tree(2, 2)", "tree(3, 3)");
  }

  static void promise08_rootIsOfARootAnd0To3(Check check) {
    for (int what = 0; what < 4; what++) {
      things(check, "root(?, " + what + ")", Thing.ROOT);
    }
    ofThings(check, "root(0, ?)", Thing.ROOT, 0, 3);
    onlyAsked(check, "root(0, 0)", "root(1, 1)", "root(2, 2)", "root(2, 3)");
  }

  static void promise09_talkIsOfATalkAnd0To3(Check check) {
    for (int what = 0; what < 4; what++) {
      things(check, "talk(?, " + what + ")", Thing.TALK);
    }
    ofThings(check, "talk(0, ?)", Thing.TALK, 0, 3);
    onlyAsked(check, "talk(0, 0)", "talk(1, 1)", "talk(2, 2)", "talk(2, 3)");
  }

  static void promise10_farIsOfTwoTrees(Check check) {
    things(check, "far(?, 0)", Thing.TREE);
    things(check, "far(0, ?)", Thing.TREE);
    things(check, "far(?, ?)", Thing.TREE);
    refused(check, Worlds.SOME, "far(3, 0)", NONE);
    refused(check, Worlds.SOME, "far(0, 3)", NONE);
    onlyAsked(check, "far(0, 2)", "far(2, 0)", "far(3, 3)");
  }

  static void promise11_loudIsOfTwoTreesAndABreath(Check check) {
    things(check, "loud(?, 0, 1)", Thing.TREE);
    things(check, "loud(0, ?, 60)", Thing.TREE);
    ofThings(check, "loud(0, 0, ?)", Thing.TREE, 1, 60);
    onlyAsked(check, "loud(0, 2, 60)", "loud(2, 0, 1)");
  }

  static void promise12_graftTakesKinds0To3(Check check) {
    things(check, "graft(?, 3)", Thing.TREE);
    ofThings(check, "graft(0, ?)", Thing.TREE, 0, 3);
  }

  static void promise13_stretchTakesLengths1To9(Check check) {
    things(check, "stretch(?, 9)", Thing.ROOT);
    ofThings(check, "stretch(0, ?)", Thing.ROOT, 1, 9);
  }

  static void promise14_growTakesTwoTreesAndALength(Check check) {
    for (Worlds world : Worlds.values()) {
      int trees = world.trees();
      // 0 is alike with the other one here, so the first that may stand is 1
      bounds(check, world, "grow(?, 0, 1)", Math.min(1, trees), trees - 1);
      bounds(check, world, "grow(0, ?, 9)", Math.min(1, trees), trees - 1);
      bounds(check, world, "grow(0, 1, ?)", 1, trees == 0 ? 0 : 9);
    }
  }

  static void promise14_alikeIsBadAndFullAtNine(Check check) {
    for (Worlds world : Worlds.values()) {
      for (int t = 0; t < world.trees(); t++) {
        refused(check, world, "grow(" + t + ", " + t + ", 1)", BAD);
      }
    }
    refused(check, Worlds.FULL, "grow(0, 1, 1)", FULL);
    refused(check, Worlds.FULL, "grow(5, 0, 9)", FULL);
    refused(check, Worlds.FULL, "grow(0, 6, 9)", BAD);
    refused(check, Worlds.FULL, "grow(0, 1, 10)", BAD);
  }

  static void promise15_cutIsOfARoot(Check check) {
    things(check, "cut(?, true)", Thing.ROOT);
    things(check, "cut(?, false)", Thing.ROOT);
    Worlds.SOME.stays(check, List.of("cut(2, true)", "cut(0, false)", "cut(1, false)"));
  }

  static void promise16_windIs0To20(Check check) {
    bounds(check, "wind(?)", 0, 20);
  }

  static void promise17_bookTakesAnHourATreeABreath(Check check) {
    ofThings(check, "book(?, 0, 1)", Thing.TREE, 0, 23);
    things(check, "book(0, ?, 1)", Thing.TREE);
    ofThings(check, "book(0, 0, ?)", Thing.TREE, 1, 60);
  }

  static void promise17_theSeventhTalkIsFull(Check check) {
    refused(check, Worlds.FULL, "book(0, 0, 1)", FULL);
    refused(check, Worlds.FULL, "book(23, 5, 60)", FULL);
    refused(check, Worlds.FULL, "book(24, 5, 60)", BAD);
    refused(check, Worlds.FULL, "book(23, 6, 60)", BAD);
    refused(check, Worlds.FULL, "book(23, 5, 61)", BAD);
    refused(check, Worlds.EMPTY, "book(0, 0, 1)", BAD);
  }

  static void promise18_shiftTakesAnHourATreeABreath(Check check) {
    things(check, "shift(?, 0, 23)", Thing.TALK);
    things(check, "shift(?, 1, 0)", Thing.TALK);
    things(check, "shift(?, 2, 60)", Thing.TALK);
    ofThings(check, "shift(0, ?, 1)", Thing.TALK, 0, 2);
    ofThings(check, "shift(0, 0, ?)", Thing.TALK, 0, 23);
    things(check, "shift(0, 1, ?)", Thing.TREE);
    ofThings(check, "shift(0, 2, ?)", Thing.TALK, 1, 60);
  }

  static void promise19_dropKeepsNoMoreThanThereAre(Check check) {
    for (Worlds world : Worlds.values()) {
      bounds(check, world, "drop(?)", 0, world.talks());
      world.stays(check, List.of("drop(" + world.talks() + ")"));
    }
  }

  static void promise20_hearsIsOfATreeAndABreath(Check check) {
    things(check, "hears(?, 1)", Thing.TREE);
    ofThings(check, "hears(0, ?)", Thing.TREE, 1, 60);
    onlyAsked(check, "hears(0, 60)", "hears(2, 1)");
  }

  static void promise21_crossedIsOfTwoTalks(Check check) {
    for (Worlds world : Worlds.values()) {
      int talks = world.talks();
      bounds(check, world, "crossed(?, 0)", Math.min(1, talks), talks - 1);
      bounds(check, world, "crossed(0, ?)", Math.min(1, talks), talks - 1);
      for (int k = 0; k < talks; k++) {
        refused(check, world, "crossed(" + k + ", " + k + ")", BAD);
      }
    }
    onlyAsked(check, "crossed(0, 2)", "crossed(1, 0)");
  }

  static void promise22_leastIsOfATreeAndSomeTrees(Check check) {
    things(check, "least(?, 0)", Thing.TREE);
    treeBits(check, "least(0, ?)", true);
    refused(check, Worlds.SOME, "least(0, 8)", NONE);
    refused(check, Worlds.SOME, "least(0, 24)", BAD);
    onlyAsked(check, "least(0, 7)", "least(3, 8)");
  }

  static void promise23_justIsOfATreeAndSomeTrees(Check check) {
    things(check, "just(?, 0)", Thing.TREE);
    treeBits(check, "just(0, ?)", true);
    refused(check, Worlds.SOME, "just(0, 2)", NONE);
    refused(check, Worlds.SOME, "just(0, 18)", BAD);
    onlyAsked(check, "just(0, 7)", "just(3, 8)");
  }

  static void promise24_fromIsOfSomeTreesAnd0To1(Check check) {
    treeBits(check, "from(?, 0)", false);
    treeBits(check, "from(?, 1)", false);
    bounds(check, "from(0, ?)", 0, 1);
    refused(check, Worlds.SOME, "from(9, 0)", NONE);
    refused(check, Worlds.SOME, "from(9, 1)", NONE);
    refused(check, Worlds.SOME, "from(9, 2)", BAD);
    refused(check, Worlds.EMPTY, "from(0, 0)", NONE);
    onlyAsked(check, "from(3, 0)", "from(3, 1)");
  }

  static void promise25_hushIsOfTwoTreesABreathAnd0To1(Check check) {
    things(check, "hush(?, 0, 1, 0)", Thing.TREE);
    things(check, "hush(0, ?, 60, 1)", Thing.TREE);
    ofThings(check, "hush(0, 0, ?, 0)", Thing.TREE, 1, 60);
    ofThings(check, "hush(0, 0, 9, ?)", Thing.TREE, 0, 1);
    refused(check, Worlds.SOME, "hush(0, 0, 9, 0)", NONE);
    refused(check, Worlds.SOME, "hush(0, 0, 9, 1)", NONE);
    refused(check, Worlds.SOME, "hush(0, 0, 9, 2)", BAD);
    onlyAsked(check, "hush(0, 2, 60, 0)", "hush(0, 1, 60, 1)");
  }

  static void promise26_joinIsOfATreeABreathALengthAnd0To1(Check check) {
    things(check, "join(?, 9, 1, 0)", Thing.TREE);
    ofThings(check, "join(0, ?, 1, 1)", Thing.TREE, 1, 60);
    ofThings(check, "join(0, 9, ?, 0)", Thing.TREE, 1, 9);
    ofThings(check, "join(0, 9, 9, ?)", Thing.TREE, 0, 1);
  }

  static void promise26_badAheadOfFullAheadOfNone(Check check) {
    // with a breath of 1 there would be none
    refused(check, Worlds.SOME, "join(0, 1, 1, 0)", NONE);
    refused(check, Worlds.FULL, "join(0, 1, 1, 0)", FULL);
    refused(check, Worlds.FULL, "join(0, 60, 1, 1)", FULL);
    refused(check, Worlds.FULL, "join(6, 1, 1, 0)", BAD);
    refused(check, Worlds.FULL, "join(0, 61, 1, 0)", BAD);
    refused(check, Worlds.FULL, "join(0, 1, 10, 0)", BAD);
    refused(check, Worlds.FULL, "join(0, 1, 1, 2)", BAD);
    onlyAsked(check, "join(0, 60, 1, 0)", "join(3, 60, 9, 1)");
  }

  static void promise27_dearIsOf0To1(Check check) {
    bounds(check, "dear(?)", 0, 1);
    refused(check, Worlds.EMPTY, "dear(0)", NONE);
    refused(check, Worlds.EMPTY, "dear(1)", NONE);
    onlyAsked(check, "dear(0)", "dear(1)");
  }

  static void promise28_hourIsOfATalkAnd0To1(Check check) {
    things(check, "hour(?, 0)", Thing.TALK);
    ofThings(check, "hour(0, ?)", Thing.TALK, 0, 1);
    onlyAsked(check, "hour(0, 0)", "hour(2, 1)");
  }

  static void promise29_kindIsOfATreeAnd0To1(Check check) {
    things(check, "kind(?, 0)", Thing.TREE);
    ofThings(check, "kind(0, ?)", Thing.TREE, 0, 1);
    onlyAsked(check, "kind(1, 0)", "kind(1, 1)");
  }

  static void promise30_calmChangesNothing(Check check) {
    onlyAsked(check, "calm()");
  }

  static void promise31_luckIsByTenthsOfTwoTreesABreathAnd0To1(Check check) {
    ofThings(check, "luck(?, 0, 0, 1, 0)", Thing.TREE, 0, 10);
    things(check, "luck(0, ?, 0, 1, 0)", Thing.TREE);
    things(check, "luck(10, 0, ?, 60, 1)", Thing.TREE);
    ofThings(check, "luck(5, 0, 0, ?, 0)", Thing.TREE, 1, 60);
    ofThings(check, "luck(5, 0, 0, 9, ?)", Thing.TREE, 0, 1);
    onlyAsked(check, "luck(5, 0, 2, 60, 0)", "luck(10, 0, 2, 60, 1)");
  }

  static void promise32_meanIsByTenthsOfATreeABreathAnd0To1(Check check) {
    ofThings(check, "mean(?, 0, 1, 0)", Thing.TREE, 0, 10);
    things(check, "mean(0, ?, 1, 0)", Thing.TREE);
    ofThings(check, "mean(5, 0, ?, 0)", Thing.TREE, 1, 60);
    ofThings(check, "mean(5, 0, 9, ?)", Thing.TREE, 0, 1);
    onlyAsked(check, "mean(5, 0, 60, 0)", "mean(10, 0, 60, 1)");
  }

  static void promise33_seeIsOfATreeAnd0To120(Check check) {
    things(check, "see(?, 0)", Thing.TREE);
    ofThings(check, "see(0, ?)", Thing.TREE, 0, 120);
  }

  static void promise33_theSeventhSightIsFull(Check check) {
    refused(check, Worlds.FULL, "see(0, 0)", FULL);
    refused(check, Worlds.FULL, "see(5, 120)", FULL);
    refused(check, Worlds.FULL, "see(5, 121)", BAD);
    refused(check, Worlds.FULL, "see(6, 120)", BAD);
  }

  static void promise34_forgetKeepsNoMoreThanThereAre(Check check) {
    for (Worlds world : Worlds.values()) {
      bounds(check, world, "forget(?)", 0, world.sightings());
      world.stays(check, List.of("forget(" + world.sightings() + ")"));
    }
  }

  static void promise35_sayersChangesNothing(Check check) {
    onlyAsked(check, "sayers()");
  }

  static void promise36_breathsIsOfATreeAnd0To1(Check check) {
    things(check, "breaths(?, 0)", Thing.TREE);
    things(check, "breaths(?, 1)", Thing.TREE);
    ofThings(check, "breaths(0, ?)", Thing.TREE, 0, 1);
    refused(check, Worlds.SOME, "breaths(2, 1)", NONE);
    onlyAsked(check, "breaths(0, 0)", "breaths(1, 1)");
  }

  static void promise37_kindsIsOfATree(Check check) {
    things(check, "kinds(?)", Thing.TREE);
    onlyAsked(check, "kinds(0)", "kinds(1)", "kinds(3)");
  }

  static void promise38_askIsOf0To1(Check check) {
    bounds(check, "ask(?)", 0, 1);
    refused(check, Worlds.EMPTY, "ask(0)", NONE);
    refused(check, Worlds.EMPTY, "ask(1)", NONE);
    onlyAsked(check, "ask(0)", "ask(1)");
  }

  static void promise39_driftIs1To60TimesAnd0To1(Check check) {
    bounds(check, "drift(7, ?, 0)", 1, 60);
    bounds(check, "drift(7, 60, ?)", 0, 1);
    refused(check, Worlds.EMPTY, "drift(7, 1, 0)", STATE);
    refused(check, Worlds.EMPTY, "drift(7, 60, 1)", STATE);
    refused(check, Worlds.EMPTY, "drift(7, 61, 1)", BAD);
    refused(check, Worlds.EMPTY, "drift(7, 0, 1)", BAD);
    refused(check, Worlds.EMPTY, "drift(7, 1, 2)", BAD);
    onlyAsked(check, "drift(min, 60, 0)", "drift(7, 1, 1)", "drift(max, 13, 0)");
  }

  static void promise40_keepIsOf0To1(Check check) {
    bounds(check, "keep(?)", 0, 1);
  }

  static void promise41_backIsOf0To1(Check check) {
    bounds(check, "back(?)", 0, 1);
    refused(check, Worlds.EMPTY, "back(0)", STATE);
    refused(check, Worlds.EMPTY, "back(1)", STATE);
    refused(check, Worlds.SOME, "back(0)", STATE);
  }

  static void promise42_sheetIsOf0To3ALaneAndASize(Check check) {
    bounds(check, "sheet(?, 0, 40)", 0, 3);
    bounds(check, "sheet(0, ?, 0)", 0, 2);
    for (Worlds world : Worlds.values()) {
      for (String size : new String[] {"41", "42", "296", "65576", "max"}) {
        refused(check, world, "sheet(3, 2, " + size + ")", BAD);
      }
      for (String size : new String[] {"-1", "-2", "-216", "-65496", "min"}) {
        refused(check, world, "sheet(3, 2, " + size + ")", -14);
        refused(check, world, "sheet(4, 2, " + size + ")", BAD);
        refused(check, world, "sheet(-1, 2, " + size + ")", BAD);
        refused(check, world, "sheet(3, 3, " + size + ")", BAD);
        refused(check, world, "sheet(3, -1, " + size + ")", BAD);
      }
    }
  }

  static void promise43_layIsOf0To3(Check check) {
    bounds(check, "lay(?, 0, 1)", 0, 3);
    bounds(check, "lay(?, -1, 1)", 0, 3);
  }

  static void promise43_layFindsNullAndIndex(Check check) {
    for (int k = 0; k < 4; k++) {
      for (String i : new String[] {"0", "-1", "40", "min", "max"}) {
        refused(check, Worlds.EMPTY, "lay(" + k + ", " + i + ", 1)", -11);
      }
    }
    refused(check, Worlds.SOME, "lay(2, 0, 1)", -11);
    int[] sizes = {10, 3, -1, 0};
    for (int k = 0; k < 4; k++) {
      for (int i : outside(0, sizes[k] - 1)) {
        if (sizes[k] >= 0) {
          refused(check, Worlds.SOME, "lay(" + k + ", " + i + ", 1)", -12);
        }
      }
      for (int i : outside(0, 39)) {
        refused(check, Worlds.FULL, "lay(" + k + ", " + i + ", 2)", -12);
      }
    }
  }

  static void promise44_readIsOf0To3ALaneAnd0To13Talks(Check check) {
    bounds(check, "read(?, 1, 0, 1)", 0, 3);
    bounds(check, "read(0, ?, 0, 1)", 0, 2);
    bounds(check, "read(1, 1, 0, ?)", 0, 13);
    bounds(check, "read(1, 1, min, ?)", 0, 13);
  }

  static void promise44_noneCameOfWhatBookRefuses(Check check) {
    // 5 1 9, 23 3 60, 9 4 1, 77: there are trees 0 to 3
    refused(check, Worlds.SOME, "read(0, 0, 0, 3)", -22);
    refused(check, Worlds.SOME, "read(0, 0, 0, 13)", -22);
    refused(check, Worlds.SOME, "read(0, 0, 3, 2)", -21);
    refused(check, Worlds.SOME, "read(0, 0, 6, 1)", -20);
    refused(check, Worlds.SOME, "read(0, 0, 7, 1)", -20);
    refused(check, Worlds.FULL, "read(3, 0, 0, 1)", -20);
    refused(check, Worlds.FULL, "read(3, 0, 0, 13)", -20);
    refused(check, Worlds.FULL, "read(3, 0, 37, 13)", -20);
    refused(check, Worlds.FULL, "read(0, 0, 37, 13)", -20);
  }

  static void promise45_tornChangesNothing(Check check) {
    onlyAsked(check, "torn()", "torn()");
  }

  static void promise46_countIsOf0To5(Check check) {
    bounds(check, "count(?)", 0, 5);
    onlyAsked(check, "count(0)", "count(1)", "count(2)", "count(3)", "count(4)", "count(5)");
    refused(check, Worlds.EMPTY, "count(3)", NONE);
  }
}
