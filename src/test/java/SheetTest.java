/** Promises 40 to 46: images, sheets. */
public final class SheetTest {
  private static final Check CHECK = new Check();
  private static final int BAD = AspenLine.BAD;

  public static void main(String[] args) {
    images();
    sheetAndLay();
    lanes();
    read();
    readRefused();
    count();
    CHECK.close("SheetTest");
  }

  private static void images() {
    AspenLine x = CHECK.told("plain;silver;root 0 1 2;talk 4 0 9;talk 4 1 9;wind 1;");
    CHECK.due("keep(2)", x.keep(2), BAD);
    CHECK.due("keep(-1)", x.keep(-1), BAD);
    CHECK.due("back(2)", x.back(2), BAD);
    CHECK.due("back(-1)", x.back(-1), BAD);
    CHECK.due("back(0)", x.back(0), AspenLine.STATE);
    CHECK.due("keep(0)", x.keep(0), 0);
    CHECK.due("count(1)", x.count(1), 1);
    x.see(0, 3);
    x.graft(0, 2);
    x.stretch(0, 9);
    x.grow(0, 1, 5);
    x.cut(0, true);
    x.wind(20);
    x.shift(0, 0, 5);
    x.shift(1, 2, 60);
    x.book(7, 1, 1);
    CHECK.due("keep(1)", x.keep(1), 0);
    CHECK.due("keep(1) again", x.keep(1), 1);
    CHECK.due("count(1)", x.count(1), 2);
    CHECK.due("back(0): crossed", x.back(0), 1);
    CHECK.due("kind", x.tree(0, 0), 0);
    CHECK.due("length", x.root(0, 2), 2);
    CHECK.due("roots", x.rule(1), 1);
    CHECK.due("cut", x.rule(4), 0);
    CHECK.due("wind", x.rule(2), 1);
    CHECK.due("hour", x.talk(0, 0), 4);
    CHECK.due("breath", x.talk(1, 2), 9);
    CHECK.due("talks", x.rule(3), 2);
    CHECK.due("what is seen stays", x.count(0), 1);
    CHECK.due("back(1): crossed", x.back(1), 0);
    CHECK.due("kind", x.tree(0, 0), 2);
    CHECK.due("roots", x.rule(1), 2);
    CHECK.due("cut", x.rule(4), 1);
    CHECK.due("talks", x.rule(3), 3);
    x.drop(0);
    CHECK.due("an image stays an image", x.back(1), 0);
    CHECK.due("talks", x.rule(3), 3);
    CHECK.due("count(1)", x.count(1), 2);
  }

  private static void sheetAndLay() {
    AspenLine x = new AspenLine();
    CHECK.due("sheet(4, 0, 1)", x.sheet(4, 0, 1), BAD);
    CHECK.due("sheet(-1, 0, 1)", x.sheet(-1, 0, 1), BAD);
    CHECK.due("sheet(0, 3, 1)", x.sheet(0, 3, 1), BAD);
    CHECK.due("sheet(0, -1, 1)", x.sheet(0, -1, 1), BAD);
    CHECK.due("sheet(0, 0, 41)", x.sheet(0, 0, 41), BAD);
    CHECK.due("sheet(0, 0, -1)", x.sheet(0, 0, -1), -14);
    CHECK.due("sheet(0, 3, -1)", x.sheet(0, 3, -1), BAD);
    CHECK.due("still nothing", x.count(3), AspenLine.NONE);
    CHECK.due("lay on nothing", x.lay(0, 0, 1), -11);
    CHECK.due("sheet(0, 0, 0)", x.sheet(0, 0, 0), 1);
    CHECK.due("no cells", x.count(3), 0);
    CHECK.due("lay without cells", x.lay(0, 0, 1), -12);
    CHECK.due("sheet(0, 2, 40)", x.sheet(0, 2, 40), 1);
    CHECK.due("forty cells", x.count(3), 40);
    CHECK.due("lay(0, 39, 1)", x.lay(0, 39, 1), 1);
    CHECK.due("lay(0, 40, 1)", x.lay(0, 40, 1), -12);
    CHECK.due("lay(0, -1, 1)", x.lay(0, -1, 1), -12);
    CHECK.due("lay(0, min, 1)", x.lay(0, Integer.MIN_VALUE, 1), -12);
    CHECK.due("lay(0, max, 1)", x.lay(0, Integer.MAX_VALUE, 1), -12);
    CHECK.due("lay(4, 0, 1)", x.lay(4, 0, 1), BAD);
    CHECK.due("lay(-1, 0, 1)", x.lay(-1, 0, 1), BAD);
    CHECK.due("another sheet is its own", x.lay(1, 0, 1), -11);
    CHECK.due("refused, the row stays", x.sheet(0, 2, -1), -14);
    CHECK.due("refused, the row stays", x.count(3), 40);
  }

  private static void lay(AspenLine x, int k, int... cells) {
    for (int i = 0; i < cells.length; i++) {
      CHECK.due("lay(" + k + ", " + i + ", " + cells[i] + ")", x.lay(k, i, cells[i]), 1);
    }
  }

  private static void lanes() {
    AspenLine x = CHECK.told("plain;");
    x.sheet(0, 0, 3);
    lay(x, 0, 256 + 23, 1 << 16, 3 << 8 | 60);
    CHECK.due("the lowest 8 bits", x.read(0, 0, 0, 1), 1);
    CHECK.due("hour", x.talk(0, 0), 23);
    CHECK.due("breath", x.talk(0, 2), 60);
    lay(x, 0, 0, 0, 128 + 60);
    CHECK.due("a byte has a sign", x.read(0, 0, 0, 1), -20);
    x.sheet(1, 1, 3);
    lay(x, 1, 65536 + 5, 1 << 20, -65536 + 7);
    CHECK.due("the lowest 16 bits", x.read(1, 1, 0, 1), 1);
    CHECK.due("hour", x.talk(1, 0), 5);
    CHECK.due("breath", x.talk(1, 2), 7);
    lay(x, 1, 5, 0, 256 + 7);
    CHECK.due("a short keeps more than 8 bits", x.read(1, 1, 0, 1), -20);
    lay(x, 1, 5, 0, 32768 + 7);
    CHECK.due("a short has a sign", x.read(1, 1, 0, 1), -20);
    x.sheet(2, 2, 3);
    lay(x, 2, 65536 + 5, 0, 1);
    CHECK.due("an int keeps all", x.read(2, 2, 0, 1), -20);
    lay(x, 2, 5, 0, 1);
    CHECK.due("as told", x.read(2, 2, 0, 1), 1);
    x.sheet(2, 2, 3);
    CHECK.due("a new row is 0", x.read(2, 2, 0, 1), -20);
    lay(x, 1, 5, 0, 7);
    x.sheet(1, 1, 3);
    x.lay(1, 2, 8);
    CHECK.due("nothing is left of the row before", x.read(1, 1, 0, 1), 1);
    CHECK.due("its hour", x.talk(3, 0), 0);
    CHECK.due("its breath", x.talk(3, 2), 8);
  }

  private static void read() {
    AspenLine x = CHECK.told("plain;silver;");
    CHECK.due("read(4, 0, 0, 1)", x.read(4, 0, 0, 1), BAD);
    CHECK.due("read(-1, 0, 0, 1)", x.read(-1, 0, 0, 1), BAD);
    CHECK.due("read(0, 3, 0, 1)", x.read(0, 3, 0, 1), BAD);
    CHECK.due("read(0, -1, 0, 1)", x.read(0, -1, 0, 1), BAD);
    CHECK.due("read(0, 0, 0, 14)", x.read(0, 0, 0, 14), BAD);
    CHECK.due("read(0, 0, 0, -1)", x.read(0, 0, 0, -1), BAD);
    CHECK.due("read of nothing", x.read(0, 0, 0, 13), 0);
    CHECK.due("NULL", x.torn(), 1);
    CHECK.due("no talks of nothing", x.read(0, 0, -5, 0), 0);
    CHECK.due("no fault", x.torn(), 0);
    x.sheet(0, 1, 8);
    lay(x, 0, 1, 0, 10, 2, 1, 20, 3, 0);
    CHECK.due("another lane", x.read(0, 0, 0, 1), 0);
    CHECK.due("CAST", x.torn(), 3);
    CHECK.due("CAST goes before INDEX", x.read(0, 2, -1, 1), 0);
    CHECK.due("CAST", x.torn(), 3);
    CHECK.due("no talks of another lane", x.read(0, 2, 0, 0), 0);
    CHECK.due("no fault", x.torn(), 0);
    CHECK.due("before the first cell", x.read(0, 1, -1, 1), 0);
    CHECK.due("INDEX", x.torn(), 2);
    CHECK.due("far before it", x.read(0, 1, Integer.MIN_VALUE, 13), 0);
    CHECK.due("far behind the last", x.read(0, 1, Integer.MAX_VALUE, 13), 0);
    CHECK.due("INDEX", x.torn(), 2);
    CHECK.due("not refused ones leave it", x.read(0, 1, 0, 14), BAD);
    CHECK.due("INDEX still", x.torn(), 2);
    CHECK.due("two are whole", x.read(0, 1, 0, 3), 2);
    CHECK.due("INDEX", x.torn(), 2);
    CHECK.due("they came", x.rule(3), 2);
    CHECK.due("talk(0, 2)", x.talk(0, 2), 10);
    CHECK.due("talk(1, 0)", x.talk(1, 0), 2);
    CHECK.due("talk(1, 1)", x.talk(1, 1), 1);
    CHECK.due("talk(1, 2)", x.talk(1, 2), 20);
    CHECK.due("from the fourth cell on", x.read(0, 1, 3, 1), 1);
    CHECK.due("no fault", x.torn(), 0);
    CHECK.due("talk(2, 2)", x.talk(2, 2), 20);
    CHECK.due("the last cells", x.read(0, 1, 5, 1), -20);
    x.lay(0, 6, 0);
    x.lay(0, 7, 60);
    CHECK.due("the last cells", x.read(0, 1, 5, 1), 1);
    CHECK.due("talk(3, 0)", x.talk(3, 0), 20);
    CHECK.due("talk(3, 2)", x.talk(3, 2), 60);
    CHECK.due("one behind them", x.read(0, 1, 6, 1), 0);
    CHECK.due("INDEX", x.torn(), 2);
  }

  private static void readRefused() {
    AspenLine x = CHECK.told("plain;silver;talk 9 0 1;");
    x.sheet(3, 2, 40);
    for (int i = 0; i < 39; i += 3) {
      x.lay(3, i, 5);
      x.lay(3, i + 1, 1);
      x.lay(3, i + 2, 40);
    }
    CHECK.due("the sixth is one too many", x.read(3, 2, 0, 13), -25);
    CHECK.due("none came", x.rule(3), 1);
    CHECK.due("five come", x.read(3, 2, 0, 5), 5);
    CHECK.due("full at once", x.read(3, 2, 0, 1), -20);
    x.drop(1);
    x.lay(3, 7, 2);
    CHECK.due("the third is bad", x.read(3, 2, 0, 5), -22);
    CHECK.due("none came", x.rule(3), 1);
    CHECK.due("none crossed", x.rule(5), 0);
    CHECK.due("a bad one is not reached", x.read(3, 2, 0, 2), 2);
    x.drop(1);
    x.lay(3, 37, 2);
    CHECK.due("what is not whole is not refused", x.read(3, 2, 37, 2), -20);
    x.lay(3, 37, 0);
    x.lay(3, 38, 1);
    x.lay(3, 39, 1);
    CHECK.due("one whole, one torn", x.read(3, 2, 37, 2), 1);
    CHECK.due("INDEX", x.torn(), 2);
    CHECK.due("a refused one", x.read(3, 2, 4, 1), -20);
    CHECK.due("leaves the fault", x.torn(), 2);
    CHECK.due("hour 40, torn before it is looked at", x.read(3, 2, 38, 1), 0);
    AspenLine none = new AspenLine();
    none.sheet(0, 0, 3);
    none.lay(0, 2, 1);
    CHECK.due("without trees", none.read(0, 0, 0, 1), -20);
  }

  private static void count() {
    AspenLine x = CHECK.told("plain;silver;root 0 1 2;root 0 1 9;talk 4 0 9;talk 4 1 50;");
    x.cut(1, true);
    x.see(0, 1);
    x.see(0, 1);
    x.keep(1);
    x.feed(1);
    x.sheet(0, 2, 7);
    long[] counts = {2, 1, 1, 7, 11, 59};
    for (int what = 0; what <= 5; what++) {
      CHECK.due("count(" + what + ")", x.count(what), counts[what]);
    }
    CHECK.due("count(6)", x.count(6), BAD);
    CHECK.due("count(-1)", x.count(-1), BAD);
    x.sheet(1, 2, 9);
    CHECK.due("cells of sheet 0", x.count(3), 7);
  }
}
