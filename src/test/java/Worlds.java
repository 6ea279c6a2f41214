import java.util.ArrayList;
import java.util.EnumMap;
import java.util.List;
import java.util.Map;
import java.util.Set;

/** Objects as they are when nothing, something, and as much as there may be has been told, and all that can be seen of one. */
enum Worlds {
  EMPTY, SOME, FULL;

  /** What can be seen; each asks so few calls that no object gets more than MOST_CALLS. */
  enum View { NOW, SEEN, LOWER_SHEETS, UPPER_SHEETS, IMAGE_0, IMAGE_1, TAPE }

  private static final int MOST_CALLS = 512;
  /** No object is made by more. */
  private static final int MAKING = 280;

  private static final String FULL_TAPE =
      "root 0 1 1;root 1 2 2;root 2 3 3;root 3 4 4;root 4 5 5;root 5 0 6;wind 11;talk 1 2 3;talk 4 5 6;"
      + "talk 7 0 8;silver;old;old;old;old;silver;talk 9 1 10;";

  private final Map<View, List<String>> seen = new EnumMap<>(View.class);

  AspenLine make() {
    return switch (this) {
      case EMPTY -> new AspenLine();
      case SOME -> some();
      case FULL -> full();
    };
  }

  /**
   * Trees 0 (plain), 1 (silver), 2 (old) in a row by roots of 2 and 3; the root from 3 (a sapling) to 0 is cut; wind 2.
   * Talks 0 and 2 are crossed at tree 1. The latest text had the fault 2, the latest read() found INDEX.
   */
  private static AspenLine some() {
    AspenLine x = new AspenLine();
    tell(x, "plain;silver;old;sapling;root 0 1 2;root 1 2 3;root 3 0 9;wind 2;talk 0 0 6;talk 23 3 60;");
    x.sheet(0, 0, 10);
    lay(x, 0, 5, 1, 9, 23, 3, 60, 9, 4, 1, 77);
    x.sheet(1, 1, 3);
    lay(x, 1, 0, 0, 1);
    x.sheet(3, 2, 0);
    x.keep(1);
    x.cut(2, true);
    x.book(0, 1, 4);
    x.see(2, 3);
    x.see(1, 20);
    tell(x, "7");
    x.read(1, 1, 1, 1);
    Check.feed(x, "old;wind 7;");
    return x;
  }

  /** As many trees, roots, talks, bytes, cells, images as there may be, and as much seen. */
  private static AspenLine full() {
    AspenLine x = new AspenLine();
    tell(x, "plain;silver;old;sapling;plain;old;wind 3;");
    int[][] roots = {{0, 1, 1}, {1, 2, 2}, {2, 3, 3}, {3, 4, 4}, {4, 5, 5}, {0, 5, 9}, {1, 4, 2}, {2, 5, 1}, {0, 3, 7}};
    for (int[] root : roots) {
      x.grow(root[0], root[1], root[2]);
    }
    for (int k = 0; k < 4; k++) {
      x.sheet(k, k % 3, 40);
    }
    for (int i = 0; i < 40; i++) {
      x.lay(3, i, 1 + i % 5);
    }
    x.keep(0);
    x.cut(8, true);
    for (int k = 0; k < 6; k++) {
      x.book(k % 2, k, 10 + k);
    }
    x.keep(1);
    for (int u = 0; u < 6; u++) {
      x.see(u, (int) Calls.ask(x, "loud(2, " + u + ", 20)"));
    }
    Check.feed(x, FULL_TAPE);
    for (int n = FULL_TAPE.length(); n < 160; n++) {
      x.feed(' ');
    }
    return x;
  }

  private static void tell(AspenLine x, String text) {
    Check.feed(x, text);
    x.text();
  }

  private static void lay(AspenLine x, int k, int... cells) {
    for (int i = 0; i < cells.length; i++) {
      x.lay(k, i, cells[i]);
    }
  }

  // ---- what there is of everything, by hand

  int trees() {
    return this == EMPTY ? 0 : this == SOME ? 4 : 6;
  }

  int roots() {
    return this == EMPTY ? 0 : this == SOME ? 3 : 9;
  }

  int talks() {
    return this == EMPTY ? 0 : this == SOME ? 3 : 6;
  }

  int bytes() {
    return this == EMPTY ? 0 : this == SOME ? 11 : 160;
  }

  int sightings() {
    return this == EMPTY ? 0 : this == SOME ? 2 : 6;
  }

  int images() {
    return this == EMPTY ? 0 : this == SOME ? 1 : 2;
  }

  int cells() {
    return this == EMPTY ? AspenLine.NONE : this == SOME ? 10 : 40;
  }

  /** Behind the calls all is as it is without them, whatever they answer. */
  void stays(Check check, List<String> calls) {
    for (View view : View.values()) {
      stays(check, view, calls);
    }
  }

  /** Behind the calls, of which none is refused, all is as it is without them but for what can be seen by some views. */
  void staysBut(Check check, Set<View> changed, List<String> calls) {
    for (View view : View.values()) {
      AspenLine x = make();
      for (String call : calls) {
        check.due(this + ", " + call + " is not refused", Calls.ask(x, call) >= 0);
      }
      if (!changed.contains(view)) {
        alike(check, view, new Seer(x).see(view), calls.size(), String.join(", ", calls));
      }
    }
  }

  /** The tape is empty behind a text, and fault() tells its fault: nothing else is changed. */
  void staysButForTheTape(Check check, String text, long answer, int fault) {
    List<String> calls = new ArrayList<>();
    calls.add("end(0)");
    for (char c : text.toCharArray()) {
      calls.add("feed(" + (int) c + ")");
    }
    calls.add("text()");
    for (View view : View.values()) {
      AspenLine x = make();
      long last = 0;
      for (String call : calls) {
        last = Calls.ask(x, call);
      }
      check.due(this + ", text() of \"" + text + "\"", last, answer);
      check.due(this + ", fault() of \"" + text + "\"", x.fault(), fault);
      check.due(this + ", the tape behind \"" + text + "\"", x.count(2), 0);
      if (view != View.TAPE) {
        alike(check, view, new Seer(x).see(view), calls.size() + 2, "\"" + text + "\"");
      }
    }
  }

  private void stays(Check check, View view, List<String> calls) {
    AspenLine x = make();
    for (String call : calls) {
      Calls.ask(x, call);
    }
    alike(check, view, new Seer(x).see(view), calls.size(), String.join(", ", calls));
  }

  private void alike(Check check, View view, List<String> now, int calls, String behind) {
    if (MAKING + calls + now.size() > MOST_CALLS) {
      check.due("calls of one object: " + (MAKING + calls + now.size()), false);
    }
    List<String> due = seen.computeIfAbsent(view, v -> new Seer(make()).see(v));
    check.due(this + ", " + view + " behind " + behind + ": lines", now.size(), due.size());
    for (int i = 0; i < Math.min(now.size(), due.size()); i++) {
      boolean alike = now.get(i).equals(due.get(i));
      check.due(this + ", " + view + " behind " + behind + ": " + now.get(i) + ", due is " + due.get(i), alike);
      if (!alike) {
        return;
      }
    }
  }

  /** Asks, and writes down what is answered. */
  private static final class Seer {
    private final AspenLine x;
    private final List<String> lines = new ArrayList<>();

    Seer(AspenLine x) {
      this.x = x;
    }

    private long ask(String call) {
      long answer = Calls.ask(x, call);
      lines.add(call + " is " + answer);
      return answer;
    }

    List<String> see(View view) {
      switch (view) {
        case NOW -> now();
        case SEEN -> whatIsSeen();
        case LOWER_SHEETS -> sheets(0, 1);
        case UPPER_SHEETS -> sheets(2, 3);
        case IMAGE_0 -> image(0);
        case IMAGE_1 -> image(1);
        case TAPE -> tape();
      }
      return lines;
    }

    private void now() {
      for (int what : new int[] {0, 1, 3, 4, 5}) {
        ask("count(" + what + ")");
      }
      ask("torn()");
      all();
    }

    /** But for FAULT and the tape, which a text changes. */
    private void all() {
      for (int what = 0; what < 6; what++) {
        ask("rule(" + what + ")");
      }
      for (int what = 0; what < 4; what++) {
        for (int t = 0; t < 6; t++) {
          ask("tree(" + t + ", " + what + ")");
          ask("talk(" + t + ", " + what + ")");
        }
        for (int i = 0; i < 9; i++) {
          ask("root(" + i + ", " + what + ")");
        }
      }
    }

    private void whatIsSeen() {
      for (int n = 6; n >= 0; n--) {
        ask("forget(" + n + ")");
        ask("count(0)");
        ask("sayers()");
        for (int t = 0; t < 6; t++) {
          ask("breaths(" + t + ", 0)");
          ask("breaths(" + t + ", 1)");
        }
      }
    }

    private void sheets(int... numbers) {
      for (int k : numbers) {
        int lane = laneOf(k);
        cells(k, lane, 0, 6);
        cells(k, lane, 18, 6);
        cells(k, lane, 36, 1);
        cells(k, lane, 37, 1);
        for (int i : new int[] {-1, 0, 2, 3, 9, 10, 39, 40}) {
          ask("lay(" + k + ", " + i + ", 1)");
        }
      }
    }

    /** The one as of which it is taken without CAST. */
    private int laneOf(int k) {
      int its = 0;
      for (int lane = 0; lane < 3; lane++) {
        ask("read(" + k + ", " + lane + ", 100, 1)");
        if (ask("torn()") == 2) {
          its = lane;
        }
      }
      return its;
    }

    /** Talks are brought by themselves: those of before are not of the sheet. */
    private void cells(int k, int lane, int from, int talks) {
      x.drop(0);
      ask("read(" + k + ", " + lane + ", " + from + ", " + talks + ")");
      for (int talk = 0; talk < talks; talk++) {
        for (int what = 0; what < 3; what++) {
          ask("talk(" + talk + ", " + what + ")");
        }
      }
    }

    private void image(int k) {
      if (ask("back(" + k + ")") >= 0) {
        all();
      }
    }

    private void tape() {
      ask("fault()");
      ask("count(2)");
      ask("text()");
      ask("fault()");
      all();
    }
  }
}
