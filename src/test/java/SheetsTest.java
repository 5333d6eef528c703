/** Promises 28 to 36: sheets and slots. */
public final class SheetsTest {
    private static final int BAD = ThirstLead.BAD, NONE = ThirstLead.NONE, NOTHING = ThirstLead.NOTHING;
    private static final int KIND = ThirstLead.KIND, INDEX = ThirstLead.INDEX, SIZE = ThirstLead.SIZE;

    public static void main(String[] args) {
        sheet();
        mark();
        pour();
        reads();
        copy();
        lay();
        ask();
        item();
        rest();
        Due.end("SheetsTest");
    }

    /** What stands at a place, by way of the last slot. */
    private static int at(ThirstLead x, int sheet, int place) {
        x.lay(4, 2, sheet);
        return x.item(4, place);
    }

    private static void sheet() {
        ThirstLead x = new ThirstLead();
        Due.is("24 places", x.sheet(3, 1, 24), 24);
        Due.is("the last one is 0", at(x, 3, 23), 0);
        Due.is("none beyond", at(x, 3, 24), INDEX);
        x.mark(3, 0, 5);
        Due.is("no places", x.sheet(3, 0, 0), 0);
        Due.is("no place at all", at(x, 3, 0), INDEX);
        Due.is("three places", x.sheet(3, 0, 3), 3);
        Due.is("all 0", at(x, 3, 0), 0);
        x.mark(3, 2, 7);
        int[][] bad = {{-1, 0, 1}, {4, 0, 1}, {3, -2, 1}, {3, 2, 1}, {3, 0, 25}, {3, 1, 25}, {4, 0, -1}, {3, 2, -1}};
        for (int[] b : bad) {
            Due.is("sheet, wrong", x.sheet(b[0], b[1], b[2]), BAD);
        }
        Due.is("size", x.sheet(3, 0, -1), SIZE);
        Due.is("size", x.sheet(3, 1, Integer.MIN_VALUE), SIZE);
        Due.is("it is as it was", at(x, 3, 2), 7);
        Due.is("missing, n any", x.sheet(3, -1, -5), 0);
        Due.is("it is missing", x.reads(3), NOTHING);
        Due.is("missing, n above 24", x.sheet(2, -1, 99), 0);
        Due.is("missing, wrong sheet", x.sheet(4, -1, 0), BAD);
    }

    private static void mark() {
        ThirstLead x = new ThirstLead();
        x.sheet(0, 0, 2);
        x.sheet(1, 1, 2);
        Due.is("mark", x.mark(0, 0, 32767), 1);
        Due.is("32767", at(x, 0, 0), 32767);
        x.mark(0, 0, 32768);
        Due.is("the lowest 16 bits", at(x, 0, 0), -32768);
        x.mark(0, 1, 65536 * 5 + 9);
        Due.is("the lowest 16 bits again", at(x, 0, 1), 9);
        Due.is("NONE in shorts", x.mark(0, 1, NONE), KIND);
        Due.is("it stays", at(x, 0, 1), 9);
        Due.is("most", x.mark(1, 0, 99999), 1);
        Due.is("most told", at(x, 1, 0), 99999);
        Due.is("above", x.mark(1, 0, 100000), BAD);
        Due.is("below", x.mark(1, 0, -100000), BAD);
        Due.is("it stays", at(x, 1, 0), 99999);
        Due.is("least", x.mark(1, 1, -99999), 1);
        Due.is("least told", at(x, 1, 1), -99999);
        Due.is("no number", x.mark(1, 1, NONE), 1);
        Due.is("no number told", at(x, 1, 1), KIND);
        Due.is("a number again", x.mark(1, 1, 3), 1);
        Due.is("told", at(x, 1, 1), 3);
        Due.is("index 2", x.mark(0, 2, 1), INDEX);
        Due.is("index -1", x.mark(1, -1, 1), INDEX);
        Due.is("index ahead of kind", x.mark(0, 2, NONE), INDEX);
        Due.is("index ahead of bad v", x.mark(1, 2, 100000), INDEX);
        Due.is("missing", x.mark(2, 9, NONE), NOTHING);
        Due.is("sheet -1", x.mark(-1, 0, 0), BAD);
        Due.is("sheet 4", x.mark(4, 0, 0), BAD);
    }

    private static void pour() {
        ThirstLead x = new ThirstLead();
        x.sheet(0, 1, 4);
        x.mark(0, 0, -5);
        x.mark(0, 1, 100);
        x.mark(0, 2, NONE);
        x.mark(0, 3, 99);
        x.water(2, 7);
        x.water(3, 99);
        x.water(4, 8);
        Due.is("one is otherwise", x.pour(0), 1);
        Due.is("0", x.water(0, 0), 0);
        Due.is("1", x.water(1, 0), 99);
        Due.is("2 stays", x.water(2, 0), 7);
        Due.is("3", x.water(3, 0), 99);
        Due.is("4 stays", x.water(4, 0), 8);
        Due.is("two are otherwise", x.pour(0), 2);
        Due.is("none is", x.pour(0), 0);
        x.sheet(1, 0, 24);
        x.mark(1, 23, 50);
        Due.is("all cells", x.pour(1), 3);
        Due.is("wells", x.band(6), 1 << 23);
        x.mark(1, 0, 4);
        Due.is("the first cell", x.pour(1), 1);
        Due.is("wells, the first one too", x.band(6), 1 << 23 | 1);
        Due.is("missing", x.pour(2), NOTHING);
        Due.is("pour(-1)", x.pour(-1), BAD);
        Due.is("pour(4)", x.pour(4), BAD);
    }

    private static void reads() {
        ThirstLead x = new ThirstLead();
        x.walker(0, 0, 24);
        x.walker(0, 0, 24);
        x.set(1, 1, 44);
        x.sheet(0, 1, 3);
        Due.is("the second", x.reads(0), 1);
        x.mark(0, 1, 44);
        Due.is("no such walker", x.reads(0), 2);
        x.mark(0, 2, NONE);
        Due.is("none", x.reads(0), NONE);
        x.mark(0, 0, -1);
        Due.is("the first", x.reads(0), 0);
        x.mark(0, 0, NONE);
        Due.is("numbers alone", x.reads(0), NONE);
        x.sheet(1, 0, 0);
        Due.is("no places", x.reads(1), NONE);
        x.rule(3, 20);
        x.hours(1);
        Due.is("the dead too", x.told(1, 5), 0);
        x.mark(0, 1, x.told(1, 1));
        Due.is("the dead are read", x.reads(0), NONE);
        Due.is("missing", x.reads(2), NOTHING);
        Due.is("reads(-1)", x.reads(-1), BAD);
        Due.is("reads(4)", x.reads(4), BAD);
    }

    private static void copy() {
        ThirstLead x = new ThirstLead();
        x.sheet(0, 0, 5);
        x.sheet(1, 0, 3);
        x.sheet(2, 1, 3);
        for (int i = 0; i < 5; i++) {
            x.mark(0, i, 10 + i);
        }
        Due.is("two places", x.copy(0, 3, 1, 1, 2), 2);
        Due.is("0", at(x, 1, 0), 0);
        Due.is("1", at(x, 1, 1), 13);
        Due.is("2", at(x, 1, 2), 14);
        Due.is("within one, upwards", x.copy(0, 0, 0, 1, 4), 4);
        int[] up = {10, 10, 11, 12, 13};
        for (int i = 0; i < 5; i++) {
            Due.is("as they were, " + i, at(x, 0, i), up[i]);
        }
        Due.is("within one, downwards", x.copy(0, 1, 0, 0, 4), 4);
        int[] down = {10, 11, 12, 13, 13};
        for (int i = 0; i < 5; i++) {
            Due.is("as they were again, " + i, at(x, 0, i), down[i]);
        }
        Due.is("the whole of it", x.copy(1, 0, 1, 0, 3), 3);
        Due.is("none, at the ends", x.copy(0, 5, 1, 3, 0), 0);
        int[][] index = {
            {0, 6, 1, 0, 0}, {0, 0, 1, 4, 0}, {0, -1, 1, 0, 1}, {0, 0, 1, -1, 1}, {0, 4, 1, 0, 2}, {0, 0, 1, 2, 2},
            {0, 0, 1, 0, -1}, {0, 0, 1, 0, Integer.MAX_VALUE}, {0, 1, 1, 1, Integer.MIN_VALUE},
            {0, Integer.MAX_VALUE, 1, 0, 1}, {0, 0, 1, Integer.MAX_VALUE, 1}};
        for (int[] i : index) {
            Due.is("copy, index", x.copy(i[0], i[1], i[2], i[3], i[4]), INDEX);
        }
        Due.is("kind", x.copy(0, 0, 2, 0, 1), KIND);
        Due.is("kind ahead of index", x.copy(2, 9, 0, 0, 1), KIND);
        Due.is("nothing", x.copy(3, 0, 0, 0, 1), NOTHING);
        Due.is("nothing there", x.copy(2, 9, 3, 9, 1), NOTHING);
        int[][] bad = {{-1, 0}, {4, 0}, {0, -1}, {3, 4}};
        for (int[] b : bad) {
            Due.is("copy, wrong", x.copy(b[0], 0, b[1], 0, 1), BAD);
        }
        x.mark(2, 0, NONE);
        Due.is("no numbers go along", x.copy(2, 0, 2, 2, 1), 1);
        Due.is("no number", at(x, 2, 2), KIND);
    }

    private static void lay() {
        ThirstLead x = new ThirstLead();
        x.walker(1, 5, 24);
        x.sheet(0, 0, 1);
        int[][] bad = {
            {-1, 0, 0}, {5, 0, 0}, {0, -1, 0}, {0, 4, 0}, {0, 1, -1}, {0, 1, 1}, {0, 2, -1}, {0, 2, 4}};
        for (int[] b : bad) {
            Due.is("lay, wrong", x.lay(b[0], b[1], b[2]), BAD);
        }
        Due.is("missing", x.lay(0, 2, 1), NOTHING);
        Due.is("it held nothing", x.lay(0, 1, 0), 0);
        Due.is("it held a walker", x.lay(0, 2, 0), 1);
        Due.is("it held a sheet", x.lay(0, 3, Integer.MIN_VALUE), 2);
        Due.is("missing, it stays", x.lay(0, 2, 1), NOTHING);
        Due.is("it held a number", x.lay(0, 0, 77), 3);
        Due.is("it holds nothing", x.lay(0, 0, -1), 0);
        Due.is("the last slot", x.lay(4, 3, 1), 0);
    }

    private static void ask() {
        ThirstLead x = new ThirstLead();
        int[] worth = {6, 14, 93, 28, 90, 4};
        String[] of = {"100000", "110000", "101000", "110100", "101010", "100001"};
        for (int kind = 0; kind < 6; kind++) {
            x.walker(kind, 6, 24);
            x.lay(1, 1, kind);
            for (int other = 0; other < 6; other++) {
                int want = of[kind].charAt(other) == '1' ? worth[kind] : KIND;
                Due.is("ask, kind " + kind + " for " + other, x.ask(1, other), want);
            }
        }
        x.lay(0, 1, 1);
        x.turns(1, 4);
        x.set(1, 2, 30);
        Due.is("as it was then", x.ask(0, 1), 14);
        x.keep();
        x.back();
        Due.is("for good", x.ask(0, 1), 14);
        x.lay(2, 3, 5);
        x.sheet(0, 0, 1);
        x.lay(3, 2, 0);
        Due.is("a number", x.ask(2, 0), KIND);
        Due.is("a sheet", x.ask(3, 0), KIND);
        Due.is("nothing", x.ask(4, 0), NOTHING);
        int[][] bad = {{-1, 0}, {5, 0}, {4, -1}, {4, 6}};
        for (int[] b : bad) {
            Due.is("ask, wrong", x.ask(b[0], b[1]), BAD);
        }
    }

    private static void item() {
        ThirstLead x = new ThirstLead();
        x.walker(0, 0, 0);
        x.sheet(0, 1, 2);
        x.mark(0, 0, 12);
        x.mark(0, 1, NONE);
        x.lay(0, 2, 0);
        x.mark(0, 0, 13);
        x.sheet(0, -1, 0);
        Due.is("a row of its own", x.item(0, 0), 12);
        Due.is("no number", x.item(0, 1), KIND);
        Due.is("index 2", x.item(0, 2), INDEX);
        Due.is("index -1", x.item(0, -1), INDEX);
        x.lay(1, 1, 0);
        x.lay(2, 3, 4);
        Due.is("a walker", x.item(1, 9), KIND);
        Due.is("a number", x.item(2, 0), KIND);
        Due.is("nothing", x.item(3, -9), NOTHING);
        Due.is("item(-1, 0)", x.item(-1, 0), BAD);
        Due.is("item(5, 0)", x.item(5, 0), BAD);
    }

    private static void rest() {
        ThirstLead x = new ThirstLead();
        x.walker(0, 0, 0);
        x.sheet(0, 0, 1);
        x.lay(0, 3, 17);
        Due.is("17 by 5", x.rest(0, 5), 2);
        Due.is("17 by -5", x.rest(0, -5), 2);
        Due.is("17 by 0", x.rest(0, 0), ThirstLead.NO);
        x.lay(0, 3, -17);
        Due.is("-17 by 5", x.rest(0, 5), -2);
        x.lay(0, 3, Integer.MIN_VALUE);
        Due.is("the least by -1", x.rest(0, -1), 0);
        x.lay(1, 1, 0);
        x.lay(2, 2, 0);
        Due.is("a walker", x.rest(1, 0), KIND);
        Due.is("a sheet", x.rest(2, 1), KIND);
        Due.is("nothing", x.rest(3, 0), NOTHING);
        Due.is("rest(-1, 1)", x.rest(-1, 1), BAD);
        Due.is("rest(5, 0)", x.rest(5, 0), BAD);
    }
}
