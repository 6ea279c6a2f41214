import java.math.BigInteger;
import java.util.ArrayList;
import java.util.HashMap;
import java.util.List;
import java.util.Map;
import java.util.Set;
import java.util.TreeSet;
import java.util.function.BiFunction;

/**
 * The document once more, written for plainness alone and with all of the Java library, so that
 * random runs can be held against AspenLine. It shares no code with it.
 */
final class Model {
  static final int BAD = -1, STATE = -2, FULL = -3, NONE = -4;

  record Root(int a, int b, int length, boolean cut) {}

  record Talk(int hour, int tree, int breath) {}

  record Seen(int tree, int loud) {}

  record World(List<Integer> kinds, List<Root> roots, int wind, List<Talk> talks) {
    World() {
      this(List.of(), List.of(), 0, List.of());
    }

    World withKind(int t, int kind) {
      return new World(replaced(kinds, t, kind), roots, wind, talks);
    }

    World withRoot(int i, Root root) {
      return new World(kinds, replaced(roots, i, root), wind, talks);
    }

    World withCut(int i, boolean cut) {
      Root r = roots.get(i);
      return withRoot(i, new Root(r.a, r.b, r.length, cut));
    }

    World withWind(int w) {
      return new World(kinds, roots, w, talks);
    }

    World withTalk(int k, Talk talk) {
      return new World(kinds, roots, wind, replaced(talks, k, talk));
    }

    World plusRoot(Root root) {
      return new World(kinds, plus(roots, root), wind, talks);
    }

    World withTalks(List<Talk> others) {
      return new World(kinds, roots, wind, List.copyOf(others));
    }

    int n() {
      return kinds.size();
    }

    /** Every way that meets no tree twice is gone; -1 if none leads there. */
    int far(int t, int u, Set<Integer> been) {
      if (t == u) {
        return 0;
      }
      int best = -1;
      been.add(t);
      for (Root r : roots) {
        if (!r.cut && (r.a == t || r.b == t)) {
          int next = r.a == t ? r.b : r.a;
          if (!been.contains(next)) {
            int rest = far(next, u, been);
            if (rest >= 0 && (best < 0 || rest + r.length < best)) {
              best = rest + r.length;
            }
          }
        }
      }
      been.remove(t);
      return best;
    }

    int far(int t, int u) {
      return far(t, u, new TreeSet<>());
    }

    int loud(int t, int u, int breath) {
      int far = far(t, u);
      return loudAt(u, far < 0 ? 0 : Math.max(0, breath - far));
    }

    int loudAt(int u, int comes) {
      return switch (kinds.get(u)) {
        case 0 -> comes;
        case 1 -> comes * 2;
        case 2 -> comes / 2;
        default -> Math.max(0, comes * 2 - 3);
      };
    }

    Set<Integer> hearers(int t, int breath) {
      Set<Integer> all = new TreeSet<>();
      for (int u = 0; u < n(); u++) {
        if (loud(t, u, breath) > wind) {
          all.add(u);
        }
      }
      return all;
    }

    Set<Integer> hearers(Talk talk) {
      return hearers(talk.tree, talk.breath);
    }

    boolean crossed(int k, int j) {
      Set<Integer> both = new TreeSet<>(hearers(talks.get(k)));
      both.retainAll(hearers(talks.get(j)));
      return talks.get(k).hour == talks.get(j).hour && !both.isEmpty();
    }

    int pairs() {
      int pairs = 0;
      for (int k = 0; k < talks.size(); k++) {
        for (int j = k + 1; j < talks.size(); j++) {
          pairs += crossed(k, j) ? 1 : 0;
        }
      }
      return pairs;
    }

    int heard() {
      return talks.stream().mapToInt(talk -> hearers(talk).size()).sum();
    }
  }

  private World now = new World();
  private final List<Integer> tape = new ArrayList<>();
  private int fault;
  private final List<Seen> seen = new ArrayList<>();
  private final Map<Integer, World> images = new HashMap<>();
  private final Object[] sheets = new Object[4];
  private int torn;

  private static <T> List<T> replaced(List<T> list, int i, T thing) {
    List<T> copy = new ArrayList<>(list);
    copy.set(i, thing);
    return List.copyOf(copy);
  }

  private static <T> List<T> plus(List<T> list, T thing) {
    List<T> copy = new ArrayList<>(list);
    copy.add(thing);
    return List.copyOf(copy);
  }

  private static int bits(Iterable<Integer> numbers) {
    int bits = 0;
    for (int number : numbers) {
      bits |= 1 << number;
    }
    return bits;
  }

  private boolean noTree(int t) {
    return t < 0 || t >= now.n();
  }

  private boolean noTrees(int some) {
    return some < 0 || some >= 1 << now.n();
  }

  private boolean noRoot(int i) {
    return i < 0 || i >= now.roots.size();
  }

  private boolean noTalk(int k) {
    return k < 0 || k >= now.talks.size();
  }

  private static boolean out(int v, int least, int most) {
    return v < least || v > most;
  }

  // ---- the text

  int feed(int c) {
    if (out(c, 0, 127)) {
      return BAD;
    }
    if (tape.size() == 160) {
      return FULL;
    }
    tape.add(c);
    return tape.size();
  }

  int end(int n) {
    int had = tape.size();
    if (out(n, 0, had)) {
      return BAD;
    }
    tape.subList(n, had).clear();
    return had;
  }

  private static final class Fault extends Exception {
    final int which;
    final int place;

    Fault(int which, int place) {
      this.which = which;
      this.place = place;
    }
  }

  int text() {
    StringBuilder all = new StringBuilder();
    tape.forEach(c -> all.append((char) (int) c));
    tape.clear();
    try {
      int lines = tell(all.toString());
      fault = 0;
      return lines;
    } catch (Fault f) {
      fault = f.which;
      return -10 - f.place;
    }
  }

  private static final Map<String, int[][]> LINES = Map.of(
      "plain", new int[][] {}, "silver", new int[][] {}, "old", new int[][] {}, "sapling", new int[][] {},
      "root", new int[][] {{0, 5}, {0, 5}, {1, 9}}, "wind", new int[][] {{0, 20}},
      "talk", new int[][] {{0, 23}, {0, 5}, {1, 60}});

  /** Where the token at a place or behind it starts: blanks are passed. */
  private static int start(String s, int at) {
    int i = at;
    while (i < s.length() && s.charAt(i) == 32) {
      i++;
    }
    return i;
  }

  /** The token that starts at a place, "" at the end. */
  private static String token(String s, int at) throws Fault {
    if (at == s.length()) {
      return "";
    }
    java.util.regex.Matcher m = java.util.regex.Pattern.compile("[a-z]+|[0-9]+|;").matcher(s).region(at, s.length());
    if (!m.lookingAt() || m.group().matches("[0-9]{3,}")) {
      throw new Fault(1, at);
    }
    return m.group();
  }

  private int tell(String s) throws Fault {
    List<String> order = List.of("plain", "silver", "old", "sapling");
    World told = new World();
    int lines = 0;
    boolean windTold = false;
    int at = start(s, 0);
    while (at < s.length()) {
      String name = token(s, at);
      if (!LINES.containsKey(name)) {
        throw new Fault(2, at);
      }
      if (name.equals("wind") && windTold) {
        throw new Fault(4, at);
      }
      if (order.contains(name) && told.n() == 6 || name.equals("root") && told.roots.size() == 9
          || name.equals("talk") && told.talks.size() == 6) {
        throw new Fault(5, at);
      }
      at = start(s, at + name.length());
      List<Integer> numbers = new ArrayList<>();
      for (int[] bounds : LINES.get(name)) {
        String token = token(s, at);
        if (!token.matches("[0-9]+")) {
          throw new Fault(2, at);
        }
        int v = Integer.parseInt(token);
        if (out(v, bounds[0], bounds[1]) || name.equals("root") && numbers.size() == 1 && v == numbers.get(0)) {
          throw new Fault(3, at);
        }
        numbers.add(v);
        at = start(s, at + token.length());
      }
      if (!token(s, at).equals(";")) {
        throw new Fault(2, at);
      }
      at = start(s, at + 1);
      lines++;
      switch (name) {
        case "root" -> told = told.plusRoot(new Root(numbers.get(0), numbers.get(1), numbers.get(2), false));
        case "wind" -> {
          told = told.withWind(numbers.get(0));
          windTold = true;
        }
        case "talk" -> told = told.withTalks(plus(told.talks, new Talk(numbers.get(0), numbers.get(1), numbers.get(2))));
        default -> told = new World(plus(told.kinds, order.indexOf(name)), told.roots, told.wind, told.talks);
      }
    }
    int trees = told.n();
    if (told.roots.stream().anyMatch(r -> r.a >= trees || r.b >= trees)
        || told.talks.stream().anyMatch(k -> k.tree >= trees)) {
      throw new Fault(6, s.length());
    }
    now = told;
    seen.clear();
    images.clear();
    return lines;
  }

  int fault() {
    return fault;
  }

  private static int cutBits(World w) {
    List<Integer> cut = new ArrayList<>();
    for (int i = 0; i < w.roots.size(); i++) {
      if (w.roots.get(i).cut) {
        cut.add(i);
      }
    }
    return bits(cut);
  }

  int rule(int what) {
    return switch (what) {
      case 0 -> now.n();
      case 1 -> now.roots.size();
      case 2 -> now.wind;
      case 3 -> now.talks.size();
      case 4 -> cutBits(now);
      case 5 -> now.pairs();
      default -> BAD;
    };
  }

  int tree(int t, int what) {
    if (noTree(t) || out(what, 0, 3)) {
      return BAD;
    }
    if (what == 0) {
      return now.kinds.get(t);
    }
    if (what == 1) {
      return (int) now.roots.stream().filter(r -> !r.cut && (r.a == t || r.b == t)).count();
    }
    List<Integer> numbers = new ArrayList<>();
    if (what == 2) {
      for (int u = 0; u < now.n(); u++) {
        if (now.far(t, u) >= 0) {
          numbers.add(u);
        }
      }
    } else {
      for (int k = 0; k < now.talks.size(); k++) {
        if (now.hearers(now.talks.get(k)).contains(t)) {
          numbers.add(k);
        }
      }
    }
    return bits(numbers);
  }

  int root(int i, int what) {
    if (noRoot(i) || out(what, 0, 3)) {
      return BAD;
    }
    Root r = now.roots.get(i);
    return new int[] {r.a, r.b, r.length, r.cut ? 1 : 0}[what];
  }

  int talk(int k, int what) {
    if (noTalk(k) || out(what, 0, 3)) {
      return BAD;
    }
    Talk talk = now.talks.get(k);
    return new int[] {talk.hour, talk.tree, talk.breath, bits(now.hearers(talk))}[what];
  }

  int far(int t, int u) {
    if (noTree(t) || noTree(u)) {
      return BAD;
    }
    int far = now.far(t, u);
    return far < 0 ? NONE : far;
  }

  int loud(int t, int u, int breath) {
    return noTree(t) || noTree(u) || out(breath, 1, 60) ? BAD : now.loud(t, u, breath);
  }

  // ---- what is changed

  int graft(int t, int v) {
    if (noTree(t) || out(v, 0, 3)) {
      return BAD;
    }
    int was = now.kinds.get(t);
    now = now.withKind(t, v);
    return was;
  }

  int stretch(int i, int v) {
    if (noRoot(i) || out(v, 1, 9)) {
      return BAD;
    }
    Root r = now.roots.get(i);
    now = now.withRoot(i, new Root(r.a, r.b, v, r.cut));
    return r.length;
  }

  int grow(int t, int u, int length) {
    if (noTree(t) || noTree(u) || t == u || out(length, 1, 9)) {
      return BAD;
    }
    if (now.roots.size() == 9) {
      return FULL;
    }
    now = now.plusRoot(new Root(t, u, length, false));
    return now.roots.size();
  }

  int cut(int i, boolean is) {
    if (noRoot(i)) {
      return BAD;
    }
    int was = now.roots.get(i).cut ? 1 : 0;
    now = now.withCut(i, is);
    return was;
  }

  int wind(int v) {
    if (out(v, 0, 20)) {
      return BAD;
    }
    int was = now.wind;
    now = now.withWind(v);
    return was;
  }

  int book(int hour, int t, int breath) {
    if (out(hour, 0, 23) || noTree(t) || out(breath, 1, 60)) {
      return BAD;
    }
    if (now.talks.size() == 6) {
      return FULL;
    }
    now = now.withTalks(plus(now.talks, new Talk(hour, t, breath)));
    return now.talks.size();
  }

  int shift(int k, int what, int v) {
    if (noTalk(k) || out(what, 0, 2)) {
      return BAD;
    }
    Talk talk = now.talks.get(k);
    if (what == 0 && !out(v, 0, 23)) {
      now = now.withTalk(k, new Talk(v, talk.tree, talk.breath));
      return talk.hour;
    }
    if (what == 1 && !noTree(v)) {
      now = now.withTalk(k, new Talk(talk.hour, v, talk.breath));
      return talk.tree;
    }
    if (what == 2 && !out(v, 1, 60)) {
      now = now.withTalk(k, new Talk(talk.hour, talk.tree, v));
      return talk.breath;
    }
    return BAD;
  }

  int drop(int n) {
    int had = now.talks.size();
    if (out(n, 0, had)) {
      return BAD;
    }
    now = now.withTalks(now.talks.subList(0, n));
    return had;
  }

  // ---- who hears what

  int hears(int t, int breath) {
    return noTree(t) || out(breath, 1, 60) ? BAD : bits(now.hearers(t, breath));
  }

  int crossed(int k, int j) {
    return noTalk(k) || noTalk(j) || k == j ? BAD : now.crossed(k, j) ? 1 : 0;
  }

  int least(int t, int some) {
    if (noTree(t) || noTrees(some)) {
      return BAD;
    }
    for (int breath = 1; breath <= 60; breath++) {
      if ((some & ~bits(now.hearers(t, breath))) == 0) {
        return breath;
      }
    }
    return NONE;
  }

  int just(int t, int some) {
    if (noTree(t) || noTrees(some)) {
      return BAD;
    }
    for (int breath = 1; breath <= 60; breath++) {
      if (some == bits(now.hearers(t, breath))) {
        return breath;
      }
    }
    return NONE;
  }

  int from(int some, int what) {
    if (noTrees(some) || out(what, 0, 1)) {
      return BAD;
    }
    for (int breath = 1; breath <= 60; breath++) {
      for (int t = 0; t < now.n(); t++) {
        if ((some & ~bits(now.hearers(t, breath))) == 0) {
          return what == 0 ? t : breath;
        }
      }
    }
    return NONE;
  }

  // ---- what is best

  int hush(int t, int u, int breath, int what) {
    if (noTree(t) || noTree(u) || out(breath, 1, 60) || out(what, 0, 1)) {
      return BAD;
    }
    for (int many = 0; many <= now.roots.size(); many++) {
      for (int more = 0; more < 1 << now.roots.size(); more++) {
        if (Integer.bitCount(more) == many && (more & cutBits(now)) == 0) {
          World w = now;
          for (int i = 0; i < now.roots.size(); i++) {
            w = (more >> i & 1) == 1 ? w.withCut(i, true) : w;
          }
          if (w.loud(t, u, breath) <= w.wind) {
            return what == 0 ? many : more;
          }
        }
      }
    }
    return NONE;
  }

  int join(int t, int breath, int length, int what) {
    if (noTree(t) || out(breath, 1, 60) || out(length, 1, 9) || out(what, 0, 1)) {
      return BAD;
    }
    if (now.roots.size() == 9) {
      return FULL;
    }
    int most = now.hearers(t, breath).size();
    int answer = NONE;
    for (int code = 0; code < 100; code++) {
      int a = code / 10;
      int b = code % 10;
      if (a < b && b < now.n()) {
        int heard = now.plusRoot(new Root(a, b, length, false)).hearers(t, breath).size();
        if (heard > most) {
          most = heard;
          answer = code;
        }
      }
    }
    return answer == NONE || what == 0 ? answer : most;
  }

  int dear(int what) {
    if (out(what, 0, 1)) {
      return BAD;
    }
    int fewest = now.heard();
    int answer = NONE;
    for (int i = 0; i < now.roots.size(); i++) {
      int heard = now.withCut(i, true).heard();
      if (heard < fewest) {
        fewest = heard;
        answer = i;
      }
    }
    return answer == NONE || what == 0 ? answer : fewest;
  }

  private int fewestPairs(int many, BiFunction<World, Integer, World> by, int what) {
    int fewest = 1000;
    int answer = NONE;
    for (int v = 0; v < many; v++) {
      int pairs = by.apply(now, v).pairs();
      if (pairs < fewest) {
        fewest = pairs;
        answer = v;
      }
    }
    return what == 0 ? answer : fewest;
  }

  int hour(int k, int what) {
    if (noTalk(k) || out(what, 0, 1)) {
      return BAD;
    }
    Talk talk = now.talks.get(k);
    return fewestPairs(24, (w, hour) -> w.withTalk(k, new Talk(hour, talk.tree, talk.breath)), what);
  }

  int kind(int t, int what) {
    if (noTree(t) || out(what, 0, 1)) {
      return BAD;
    }
    return fewestPairs(4, (w, kind) -> w.withKind(t, kind), what);
  }

  int calm() {
    for (int v = 0; v <= 20; v++) {
      if (now.withWind(v).pairs() == 0) {
        return v;
      }
    }
    return NONE;
  }

  // ---- beavers

  /** The mean of how many of some hear, in tenths to the power of the roots that are not yet looked at. */
  private static BigInteger weighed(World w, int i, int v, int t, int breath, Set<Integer> among) {
    if (i == w.roots.size()) {
      Set<Integer> heard = w.hearers(t, breath);
      heard.retainAll(among);
      return BigInteger.valueOf(heard.size());
    }
    if (w.roots.get(i).cut) {
      return weighed(w, i + 1, v, t, breath, among);
    }
    return weighed(w, i + 1, v, t, breath, among).multiply(BigInteger.valueOf(10 - v))
        .add(weighed(w.withCut(i, true), i + 1, v, t, breath, among).multiply(BigInteger.valueOf(v)));
  }

  private long lowest(BigInteger over, int what) {
    BigInteger under = BigInteger.TEN.pow(now.roots.size() - Integer.bitCount(cutBits(now)));
    BigInteger divisor = over.gcd(under);
    return (what == 0 ? over : under).divide(divisor).longValueExact();
  }

  long luck(int v, int t, int u, int breath, int what) {
    if (out(v, 0, 10) || noTree(t) || noTree(u) || out(breath, 1, 60) || out(what, 0, 1)) {
      return BAD;
    }
    return lowest(weighed(now, 0, v, t, breath, Set.of(u)), what);
  }

  long mean(int v, int t, int breath, int what) {
    if (out(v, 0, 10) || noTree(t) || out(breath, 1, 60) || out(what, 0, 1)) {
      return BAD;
    }
    return lowest(weighed(now, 0, v, t, breath, Set.of(0, 1, 2, 3, 4, 5)), what);
  }

  // ---- who said it

  int see(int u, int loud) {
    if (noTree(u) || out(loud, 0, 120)) {
      return BAD;
    }
    if (seen.size() == 6) {
      return FULL;
    }
    seen.add(new Seen(u, loud));
    return seen.size();
  }

  int forget(int n) {
    int had = seen.size();
    if (out(n, 0, had)) {
      return BAD;
    }
    seen.subList(n, had).clear();
    return had;
  }

  /** All (tree, breath) by which all is as seen. */
  private List<int[]> calls(World w) {
    List<int[]> all = new ArrayList<>();
    for (int t = 0; t < w.n(); t++) {
      int[] far = new int[w.n()];
      for (int u = 0; u < w.n(); u++) {
        far[u] = w.far(t, u);
      }
      for (int breath = 1; breath <= 60; breath++) {
        boolean fits = true;
        for (Seen s : seen) {
          int d = far[s.tree];
          fits &= w.loudAt(s.tree, d < 0 ? 0 : Math.max(0, breath - d)) == s.loud;
        }
        if (fits) {
          all.add(new int[] {t, breath});
        }
      }
    }
    return all;
  }

  int sayers() {
    return bits(calls(now).stream().map(c -> c[0]).toList());
  }

  int breaths(int t, int what) {
    if (noTree(t) || out(what, 0, 1)) {
      return BAD;
    }
    int[] all = calls(now).stream().filter(c -> c[0] == t).mapToInt(c -> c[1]).toArray();
    return what == 0 ? all.length : all.length == 0 ? NONE : all[0];
  }

  int kinds(int t) {
    if (noTree(t)) {
      return BAD;
    }
    List<Integer> possible = new ArrayList<>();
    for (int kind = 0; kind < 4; kind++) {
      if (!calls(now.withKind(t, kind)).isEmpty()) {
        possible.add(kind);
      }
    }
    return bits(possible);
  }

  int ask(int what) {
    if (out(what, 0, 1)) {
      return BAD;
    }
    List<int[]> all = calls(now);
    int fewest = all.size();
    int answer = NONE;
    for (int u = 0; u < now.n(); u++) {
      Map<Integer, Integer> left = new HashMap<>();
      int worst = 0;
      for (int[] c : all) {
        worst = Math.max(worst, left.merge(now.loud(c[0], u, c[1]), 1, Integer::sum));
      }
      if (worst < fewest) {
        fewest = worst;
        answer = u;
      }
    }
    return answer == NONE || what == 0 ? answer : fewest;
  }

  // ---- by a seed

  int drift(int seed, int n, int what) {
    if (out(n, 1, 60) || out(what, 0, 1)) {
      return BAD;
    }
    if (now.roots.isEmpty()) {
      return STATE;
    }
    World w = now;
    BigInteger s = BigInteger.valueOf(seed);
    int sum = 0;
    int last = 0;
    for (int i = 0; i < n; i++) {
      s = s.multiply(BigInteger.valueOf(1103515245)).add(BigInteger.valueOf(12345)).mod(BigInteger.TWO.pow(32));
      int got = s.divide(BigInteger.TWO.pow(16)).mod(BigInteger.TWO.pow(15)).intValueExact();
      int root = got % w.roots.size();
      w = w.withCut(root, !w.roots.get(root).cut).withWind(got / 16 % 21);
      last = w.heard();
      sum += last;
    }
    return what == 0 ? sum : last;
  }

  // ---- images, sheets

  int keep(int k) {
    return out(k, 0, 1) ? BAD : images.put(k, now) == null ? 0 : 1;
  }

  int back(int k) {
    if (out(k, 0, 1)) {
      return BAD;
    }
    if (!images.containsKey(k)) {
      return STATE;
    }
    now = images.get(k);
    return now.pairs();
  }

  int sheet(int k, int lane, int n) {
    if (out(k, 0, 3) || out(lane, 0, 2) || n > 40) {
      return BAD;
    }
    try {
      sheets[k] = lane == 0 ? new byte[n] : lane == 1 ? new short[n] : new int[n];
      return 1;
    } catch (NegativeArraySizeException e) {
      return -14;
    }
  }

  int lay(int k, int i, int v) {
    if (out(k, 0, 3)) {
      return BAD;
    }
    try {
      if (sheets[k] instanceof byte[] row) {
        row[i] = (byte) v;
      } else if (sheets[k] instanceof short[] row) {
        row[i] = (short) v;
      } else {
        ((int[]) sheets[k])[i] = v;
      }
      return 1;
    } catch (NullPointerException e) {
      return -11;
    } catch (ArrayIndexOutOfBoundsException e) {
      return -12;
    }
  }

  private static int cell(Object row, int lane, int i) {
    return lane == 0 ? ((byte[]) row)[i] : lane == 1 ? ((short[]) row)[i] : ((int[]) row)[i];
  }

  int read(int k, int lane, int f, int n) {
    if (out(k, 0, 3) || out(lane, 0, 2) || out(n, 0, 13)) {
      return BAD;
    }
    World before = now;
    int found = 0;
    int came = 0;
    try {
      for (; came < n; came++) {
        int hour = cell(sheets[k], lane, f + 3 * came);
        int t = cell(sheets[k], lane, f + 3 * came + 1);
        int breath = cell(sheets[k], lane, f + 3 * came + 2);
        if (book(hour, t, breath) < 0) {
          now = before;
          return -20 - came;
        }
      }
    } catch (NullPointerException e) {
      found = 1;
    } catch (ArrayIndexOutOfBoundsException e) {
      found = 2;
    } catch (ClassCastException e) {
      found = 3;
    }
    torn = found;
    return came;
  }

  int torn() {
    return torn;
  }

  int count(int what) {
    return switch (what) {
      case 0 -> seen.size();
      case 1 -> images.size();
      case 2 -> tape.size();
      case 3 -> sheets[0] == null ? NONE : java.lang.reflect.Array.getLength(sheets[0]);
      case 4 -> now.roots.stream().mapToInt(Root::length).sum();
      case 5 -> now.talks.stream().mapToInt(Talk::breath).sum();
      default -> BAD;
    };
  }
}
