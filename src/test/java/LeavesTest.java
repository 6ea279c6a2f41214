import java.util.ArrayList;
import java.util.EnumSet;
import java.util.List;

/** What each call that changes something leaves as it is: all that it does not tell of. */
public final class LeavesTest {
  public static void main(String[] args) {
    Tests.run(LeavesTest.class, 12, 19);
  }

  /** Changed, and changed back. */
  private static void back(Check check, Worlds world, String... calls) {
    world.staysBut(check, EnumSet.noneOf(Worlds.View.class), List.of(calls));
  }

  /** But for what is seen by a view or some. */
  private static void but(Check check, Worlds world, EnumSet<Worlds.View> changed, String... calls) {
    world.staysBut(check, changed, List.of(calls));
  }

  private static EnumSet<Worlds.View> views(Worlds.View first, Worlds.View... rest) {
    return EnumSet.of(first, rest);
  }

  static void promise02_feedChangesTheTapeAlone(Check check) {
    for (Worlds world : new Worlds[] {Worlds.EMPTY, Worlds.SOME}) {
      but(check, world, views(Worlds.View.TAPE), "feed(35)", "feed(0)");
      back(check, world, "feed(35)", "end(" + world.bytes() + ")");
    }
  }

  static void promise03_endChangesTheTapeAlone(Check check) {
    but(check, Worlds.SOME, views(Worlds.View.TAPE), "end(0)");
    but(check, Worlds.FULL, views(Worlds.View.TAPE), "end(0)");
    back(check, Worlds.FULL, "end(159)", "feed(32)");
  }

  static void promise04_aTextThatIsTakenLeavesSheets(Check check) {
    EnumSet<Worlds.View> sheets = views(Worlds.View.LOWER_SHEETS, Worlds.View.UPPER_SHEETS);
    for (Worlds world : Worlds.values()) {
      List<String> calls = new ArrayList<>();
      calls.add("end(0)");
      for (char c : "old;".repeat(world.trees()).toCharArray()) {
        calls.add("feed(" + (int) c + ")");
      }
      calls.add("text()");
      world.staysBut(check, EnumSet.complementOf(sheets), calls);
    }
  }

  static void promise12_graft(Check check) {
    back(check, Worlds.SOME, "graft(1, 3)", "graft(1, 1)");
    back(check, Worlds.FULL, "graft(1, 3)", "graft(1, 1)");
    but(check, Worlds.SOME, views(Worlds.View.NOW, Worlds.View.SEEN), "graft(3, 0)");
  }

  static void promise13_stretch(Check check) {
    back(check, Worlds.SOME, "stretch(1, 9)", "stretch(1, 3)");
    back(check, Worlds.FULL, "stretch(0, 9)", "stretch(0, 1)");
    but(check, Worlds.SOME, views(Worlds.View.NOW), "stretch(2, 1)");
  }

  static void promise14_grow(Check check) {
    // no way is nearer by it, so that what is SEEN tells the same
    but(check, Worlds.SOME, views(Worlds.View.NOW), "grow(0, 1, 9)");
    but(check, Worlds.SOME, views(Worlds.View.NOW), "grow(1, 0, 9)", "grow(2, 1, 3)");
  }

  static void promise15_cut(Check check) {
    back(check, Worlds.SOME, "cut(0, true)", "cut(0, false)");
    back(check, Worlds.FULL, "cut(8, false)", "cut(8, true)");
    back(check, Worlds.FULL, "cut(0, true)", "cut(0, false)");
  }

  static void promise16_wind(Check check) {
    back(check, Worlds.EMPTY, "wind(20)", "wind(0)");
    back(check, Worlds.SOME, "wind(20)", "wind(2)");
    but(check, Worlds.SOME, views(Worlds.View.NOW), "wind(19)");
    but(check, Worlds.FULL, views(Worlds.View.NOW), "wind(0)");
  }

  static void promise17_book(Check check) {
    back(check, Worlds.SOME, "book(1, 1, 1)", "drop(3)");
    but(check, Worlds.SOME, views(Worlds.View.NOW), "book(0, 0, 60)");
  }

  static void promise18_shift(Check check) {
    back(check, Worlds.SOME, "shift(0, 0, 23)", "shift(0, 0, 0)");
    back(check, Worlds.SOME, "shift(0, 1, 3)", "shift(0, 1, 0)");
    back(check, Worlds.SOME, "shift(0, 2, 60)", "shift(0, 2, 6)");
    back(check, Worlds.FULL, "shift(5, 2, 60)", "shift(5, 2, 15)");
    but(check, Worlds.FULL, views(Worlds.View.NOW), "shift(5, 0, 23)", "shift(5, 1, 0)", "shift(5, 2, 1)");
  }

  static void promise19_drop(Check check) {
    but(check, Worlds.SOME, views(Worlds.View.NOW), "drop(0)");
    but(check, Worlds.FULL, views(Worlds.View.NOW), "drop(0)");
    but(check, Worlds.FULL, views(Worlds.View.NOW), "drop(5)");
    back(check, Worlds.FULL, "drop(5)", "book(1, 5, 15)");
  }

  static void promise33_see(Check check) {
    back(check, Worlds.SOME, "see(3, 120)", "forget(2)");
    but(check, Worlds.SOME, views(Worlds.View.NOW, Worlds.View.SEEN), "see(3, 120)");
  }

  static void promise34_forget(Check check) {
    but(check, Worlds.SOME, views(Worlds.View.NOW, Worlds.View.SEEN), "forget(0)");
    but(check, Worlds.FULL, views(Worlds.View.NOW, Worlds.View.SEEN), "forget(0)");
  }

  static void promise40_keepChangesThatImageAlone(Check check) {
    but(check, Worlds.SOME, views(Worlds.View.NOW, Worlds.View.IMAGE_0), "keep(0)");
    but(check, Worlds.SOME, views(Worlds.View.IMAGE_1), "keep(1)");
    but(check, Worlds.FULL, views(Worlds.View.IMAGE_0), "keep(0)");
    back(check, Worlds.FULL, "keep(1)");
  }

  static void promise41_backLeavesAllButTreesRootsWindTalks(Check check) {
    but(check, Worlds.SOME, views(Worlds.View.NOW, Worlds.View.SEEN), "back(1)");
    but(check, Worlds.FULL, views(Worlds.View.NOW, Worlds.View.SEEN), "back(0)");
    back(check, Worlds.FULL, "back(1)");
    back(check, Worlds.FULL, "back(0)", "back(1)");
  }

  static void promise42_sheetChangesThatSheetAlone(Check check) {
    for (Worlds world : Worlds.values()) {
      but(check, world, views(Worlds.View.UPPER_SHEETS), "sheet(2, 0, 5)", "sheet(3, 1, 0)");
      // count(3) is of sheet 0
      but(check, world, views(Worlds.View.LOWER_SHEETS), "sheet(1, 2, 40)");
      but(check, world, views(Worlds.View.LOWER_SHEETS, Worlds.View.NOW), "sheet(0, 1, 3)");
    }
  }

  static void promise43_layChangesThatSheetAlone(Check check) {
    but(check, Worlds.SOME, views(Worlds.View.LOWER_SHEETS), "lay(0, 0, 6)", "lay(1, 2, 2)");
    but(check, Worlds.FULL, views(Worlds.View.UPPER_SHEETS), "lay(3, 39, 60)", "lay(2, 0, 1)");
    back(check, Worlds.FULL, "lay(3, 39, 60)", "lay(3, 0, 60)", "lay(3, 39, 5)", "lay(3, 0, 1)");
  }

  static void promise44_readBringsTalksAlone(Check check) {
    but(check, Worlds.SOME, views(Worlds.View.NOW), "read(0, 0, 0, 2)");
    but(check, Worlds.SOME, views(Worlds.View.NOW), "read(2, 0, 0, 13)");
    but(check, Worlds.FULL, views(Worlds.View.NOW), "read(0, 1, 0, 13)");
    but(check, Worlds.FULL, views(Worlds.View.NOW), "drop(0)", "read(3, 0, 0, 6)");
    // the latest read() found INDEX before, too
    back(check, Worlds.SOME, "read(0, 0, 8, 1)");
    back(check, Worlds.SOME, "read(0, 0, 0, 2)", "drop(3)", "read(0, 0, 8, 1)");
  }
}
