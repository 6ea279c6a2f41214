import java.util.Random;

/** Random runs of 512 calls, the same ones each time, against the model. */
public final class ModelTest {
  private static final Check CHECK = new Check();
  private static final int RUNS = 1500;
  private static final int CALLS = 512;
  private static final int METHODS = 44;
  private static final String[] KINDS = {"plain", "silver", "old", "sapling"};

  private final Random random;
  private final AspenLine x = new AspenLine();
  private final Model m = new Model();
  private final int run;
  private int calls;

  private ModelTest(int run) {
    this.run = run;
    this.random = new Random(run);
  }

  public static void main(String[] args) {
    for (int run = 0; run < RUNS; run++) {
      new ModelTest(run).toItsEnd();
    }
    CHECK.close("ModelTest");
  }

  /** Nothing is promised about an object that had as many calls as it may have. */
  private static final class Ended extends RuntimeException {
    private static final long serialVersionUID = 1;
  }

  private void toItsEnd() {
    try {
      if (run % 8 != 0) {
        tell();
      }
      while (calls < CALLS) {
        call();
      }
    } catch (Ended e) {
      // The run had all its calls amid a step of several.
    }
  }

  private void due(String call, long got, long want) {
    calls++;
    CHECK.due("run " + run + ", call " + calls + ": " + call, got, want);
    if (calls == CALLS) {
      throw new Ended();
    }
  }

  /** Mostly as told, now and then just outside, seldom far outside. */
  private int near(int least, int most) {
    int way = random.nextInt(60);
    if (way == 0) {
      return least - 1;
    }
    if (way == 1) {
      return most + 1;
    }
    if (way == 2) {
      return random.nextInt();
    }
    if (way == 3) {
      return random.nextBoolean() ? least : most;
    }
    return least + random.nextInt(Math.max(1, most - least + 1));
  }

  private int aTree() {
    return near(0, m.rule(0) - 1);
  }

  private int aRoot() {
    return near(0, m.rule(1) - 1);
  }

  private int aTalk() {
    return near(0, m.rule(3) - 1);
  }

  private int aBreath() {
    return random.nextBoolean() ? near(1, 60) : near(1, 20);
  }

  private int someTrees() {
    return near(0, (1 << m.rule(0)) - 1);
  }

  private int either() {
    return near(0, 1);
  }

  private String aText() {
    StringBuilder text = new StringBuilder();
    int trees = random.nextInt(7);
    int roots = trees < 2 ? 0 : random.nextInt(10);
    int talks = trees < 1 ? 0 : random.nextInt(random.nextBoolean() ? 7 : 3);
    for (int t = 0; t < trees; t++) {
      text.append(gap()).append(KINDS[random.nextInt(4)]).append(gap()).append(';');
    }
    for (int i = 0; i < roots; i++) {
      int a = random.nextInt(trees);
      text.append("root ").append(a).append(gap()).append(' ').append((a + 1 + random.nextInt(trees - 1)) % trees)
          .append(' ').append(1 + random.nextInt(9)).append(gap()).append(';');
    }
    if (random.nextInt(3) > 0) {
      text.append("wind").append(gap()).append(random.nextInt(21)).append(';');
    }
    int hours = random.nextBoolean() ? 24 : 2;
    for (int k = 0; k < talks; k++) {
      text.append("talk ").append(random.nextInt(hours)).append(' ').append(random.nextInt(trees)).append(' ')
          .append(1 + random.nextInt(random.nextBoolean() ? 60 : 15)).append(';');
    }
    return text.toString();
  }

  private String gap() {
    return random.nextInt(12) == 0 ? "  " : "";
  }

  /** A text with one or two bytes put in, taken out or changed. */
  private String spoilt(String text) {
    StringBuilder spoilt = new StringBuilder(text);
    for (int n = random.nextInt(3); n >= 0 && spoilt.length() > 0; n--) {
      int at = random.nextInt(spoilt.length());
      String signs = " ;0123456789abdgilnoprstuvw#Z";
      char c = signs.charAt(random.nextInt(signs.length()));
      int way = random.nextInt(4);
      if (way == 0) {
        spoilt.deleteCharAt(at);
      } else if (way == 1) {
        spoilt.insert(at, c);
      } else if (way == 2) {
        spoilt.setCharAt(at, c);
      } else {
        int end = spoilt.indexOf(";", at);
        String line = spoilt.substring(at, end < 0 ? spoilt.length() : end + 1);
        spoilt.insert(at, line);
      }
    }
    return spoilt.toString();
  }

  private void feed(String text) {
    for (int i = 0; i < text.length(); i++) {
      due("feed(" + (int) text.charAt(i) + ")", x.feed(text.charAt(i)), m.feed(text.charAt(i)));
    }
  }

  private void tell() {
    feed(aText());
    due("text()", x.text(), m.text());
    due("fault()", x.fault(), m.fault());
  }

  private void spoil() {
    due("end(0)", x.end(0), m.end(0));
    String text = spoilt(aText());
    feed(text);
    due("text() of \"" + text + "\"", x.text(), m.text());
    due("fault()", x.fault(), m.fault());
  }

  private void call() {
    int which = random.nextInt(METHODS);
    if (which < 10) {
      askText(which);
    } else if (which < 18) {
      change(which);
    } else if (which < 31) {
      askHearing(which);
    } else if (which < 37) {
      askCall(which);
    } else {
      askSheets(which);
    }
    state();
  }

  /** All that can be seen of the state, now and then: it may be spoilt by a call that answers well. */
  private void state() {
    if (random.nextInt(50) != 0) {
      return;
    }
    for (int what = 0; what < 6; what++) {
      due("rule(" + what + ")", x.rule(what), m.rule(what));
      due("count(" + what + ")", x.count(what), m.count(what));
    }
    for (int what = 0; what < 4; what++) {
      for (int i = 0; i < 9; i++) {
        due("root(" + i + ", " + what + ")", x.root(i, what), m.root(i, what));
      }
      for (int i = 0; i < 6; i++) {
        due("tree(" + i + ", " + what + ")", x.tree(i, what), m.tree(i, what));
        due("talk(" + i + ", " + what + ")", x.talk(i, what), m.talk(i, what));
      }
    }
  }

  private void askText(int which) {
    switch (which) {
      case 0 -> { int c = near(0, 127); due("feed(" + c + ")", x.feed(c), m.feed(c)); }
      case 1 -> { int n = near(0, m.count(2)); due("end(" + n + ")", x.end(n), m.end(n)); }
      case 2 -> {
        int way = random.nextInt(12);
        if (way == 0) {
          due("end(0)", x.end(0), m.end(0));
          tell();
        } else if (way < 4) {
          spoil();
        } else if (way == 4) {
          due("text()", x.text(), m.text());
        }
      }
      case 3 -> due("fault()", x.fault(), m.fault());
      case 4 -> { int w = near(0, 5); due("rule(" + w + ")", x.rule(w), m.rule(w)); }
      case 5 -> { int t = aTree(), w = near(0, 3); due("tree(" + t + ", " + w + ")", x.tree(t, w), m.tree(t, w)); }
      case 6 -> { int i = aRoot(), w = near(0, 3); due("root(" + i + ", " + w + ")", x.root(i, w), m.root(i, w)); }
      case 7 -> { int k = aTalk(), w = near(0, 3); due("talk(" + k + ", " + w + ")", x.talk(k, w), m.talk(k, w)); }
      case 8 -> { int t = aTree(), u = aTree(); due("far(" + t + ", " + u + ")", x.far(t, u), m.far(t, u)); }
      default -> {
        int t = aTree(), u = aTree(), b = aBreath();
        due("loud(" + t + ", " + u + ", " + b + ")", x.loud(t, u, b), m.loud(t, u, b));
      }
    }
  }

  private void change(int which) {
    switch (which) {
      case 10 -> { int t = aTree(), v = near(0, 3); due("graft(" + t + ", " + v + ")", x.graft(t, v), m.graft(t, v)); }
      case 11 -> { int i = aRoot(), v = near(1, 9); due("stretch(" + i + ", " + v + ")", x.stretch(i, v), m.stretch(i, v)); }
      case 12 -> {
        int t = aTree(), u = aTree(), l = near(1, 9);
        due("grow(" + t + ", " + u + ", " + l + ")", x.grow(t, u, l), m.grow(t, u, l));
      }
      case 13 -> {
        int i = aRoot();
        boolean is = random.nextInt(3) == 0;
        due("cut(" + i + ", " + is + ")", x.cut(i, is), m.cut(i, is));
      }
      case 14 -> { int v = near(0, 20); due("wind(" + v + ")", x.wind(v), m.wind(v)); }
      case 15 -> {
        int h = random.nextBoolean() ? near(0, 23) : 1, t = aTree(), b = aBreath();
        due("book(" + h + ", " + t + ", " + b + ")", x.book(h, t, b), m.book(h, t, b));
      }
      case 16 -> {
        int k = aTalk(), w = near(0, 2), v = w == 0 ? near(0, 23) : w == 1 ? aTree() : aBreath();
        due("shift(" + k + ", " + w + ", " + v + ")", x.shift(k, w, v), m.shift(k, w, v));
      }
      default -> { int n = near(0, m.rule(3)); due("drop(" + n + ")", x.drop(n), m.drop(n)); }
    }
  }

  private void askHearing(int which) {
    int t = aTree(), u = aTree(), b = aBreath(), k = aTalk(), j = aTalk(), s = someTrees(), w = either();
    int l = near(1, 9), v = near(0, 10);
    switch (which) {
      case 18 -> due("hears(" + t + ", " + b + ")", x.hears(t, b), m.hears(t, b));
      case 19 -> due("crossed(" + k + ", " + j + ")", x.crossed(k, j), m.crossed(k, j));
      case 20 -> due("least(" + t + ", " + s + ")", x.least(t, s), m.least(t, s));
      case 21 -> due("just(" + t + ", " + s + ")", x.just(t, s), m.just(t, s));
      case 22 -> due("from(" + s + ", " + w + ")", x.from(s, w), m.from(s, w));
      case 23 -> due("hush(" + t + ", " + u + ", " + b + ", " + w + ")", x.hush(t, u, b, w), m.hush(t, u, b, w));
      case 24 -> due("join(" + t + ", " + b + ", " + l + ", " + w + ")", x.join(t, b, l, w), m.join(t, b, l, w));
      case 25 -> due("dear(" + w + ")", x.dear(w), m.dear(w));
      case 26 -> due("hour(" + k + ", " + w + ")", x.hour(k, w), m.hour(k, w));
      case 27 -> due("kind(" + t + ", " + w + ")", x.kind(t, w), m.kind(t, w));
      case 28 -> due("calm()", x.calm(), m.calm());
      case 29 -> due("luck(" + v + ", " + t + ", " + u + ", " + b + ", " + w + ")", x.luck(v, t, u, b, w), m.luck(v, t, u, b, w));
      default -> due("mean(" + v + ", " + t + ", " + b + ", " + w + ")", x.mean(v, t, b, w), m.mean(v, t, b, w));
    }
  }

  /** Mostly what one word would be, so that something is left to be told from it. */
  private void seeSome() {
    int t = random.nextInt(Math.max(1, m.rule(0)));
    int b = 1 + random.nextInt(30);
    if (random.nextInt(3) == 0) {
      due("forget(0)", x.forget(0), m.forget(0));
    }
    for (int n = random.nextInt(4); n >= 0; n--) {
      int u = aTree();
      int loud = m.loud(t, u, b);
      int seen = loud < 0 || random.nextInt(8) == 0 ? near(0, 120) : loud;
      due("see(" + u + ", " + seen + ")", x.see(u, seen), m.see(u, seen));
    }
  }

  private void askCall(int which) {
    int t = aTree(), w = either();
    switch (which) {
      case 31 -> seeSome();
      case 32 -> { int n = near(0, m.count(0)); due("forget(" + n + ")", x.forget(n), m.forget(n)); }
      case 33 -> due("sayers()", x.sayers(), m.sayers());
      case 34 -> due("breaths(" + t + ", " + w + ")", x.breaths(t, w), m.breaths(t, w));
      case 35 -> due("kinds(" + t + ")", x.kinds(t), m.kinds(t));
      default -> due("ask(" + w + ")", x.ask(w), m.ask(w));
    }
  }

  private void lay(int k, int i, int v) {
    due("lay(" + k + ", " + i + ", " + v + ")", x.lay(k, i, v), m.lay(k, i, v));
  }

  private void sheetOfTalks() {
    int k = random.nextInt(4), lane = random.nextInt(3), n = random.nextInt(41), f = random.nextInt(4);
    due("sheet(" + k + ", " + lane + ", " + n + ")", x.sheet(k, lane, n), m.sheet(k, lane, n));
    int talks = random.nextInt(8);
    for (int i = 0; i < talks; i++) {
      lay(k, f + 3 * i, random.nextInt(24));
      lay(k, f + 3 * i + 1, aTree());
      lay(k, f + 3 * i + 2, aBreath());
    }
    if (random.nextBoolean()) {
      due("drop(0)", x.drop(0), m.drop(0));
    }
    int as = random.nextInt(6) == 0 ? random.nextInt(3) : lane;
    int many = random.nextInt(3) == 0 ? near(0, 13) : talks;
    due("read(" + k + ", " + as + ", " + f + ", " + many + ")", x.read(k, as, f, many), m.read(k, as, f, many));
    due("torn()", x.torn(), m.torn());
  }

  private void askSheets(int which) {
    int k = near(0, 3);
    switch (which) {
      case 37 -> {
        int s = random.nextInt(), n = near(1, 60), w = either();
        due("drift(" + s + ", " + n + ", " + w + ")", x.drift(s, n, w), m.drift(s, n, w));
      }
      case 38 -> { int i = near(0, 1); due("keep(" + i + ")", x.keep(i), m.keep(i)); }
      case 39 -> { int i = near(0, 1); due("back(" + i + ")", x.back(i), m.back(i)); }
      case 40 -> {
        int lane = near(0, 2), n = near(0, 40);
        due("sheet(" + k + ", " + lane + ", " + n + ")", x.sheet(k, lane, n), m.sheet(k, lane, n));
      }
      case 41 -> lay(k, near(0, 39), random.nextBoolean() ? near(0, 23) : random.nextInt());
      case 42 -> sheetOfTalks();
      default -> {
        int lane = near(0, 2), f = near(0, 39), n = near(0, 13), w = near(0, 5);
        due("read(" + k + ", " + lane + ", " + f + ", " + n + ")", x.read(k, lane, f, n), m.read(k, lane, f, n));
        due("torn()", x.torn(), m.torn());
        due("count(" + w + ")", x.count(w), m.count(w));
      }
    }
  }
}
