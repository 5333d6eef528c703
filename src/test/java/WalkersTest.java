/** Promises 1 to 10: a new object, walkers, cells, rules, lots. */
public final class WalkersTest {
    private static final int BAD = ThirstLead.BAD;

    public static void main(String[] args) {
        aNewObject();
        walker();
        toldByKinds();
        goes();
        guideGoes();
        asAndTurns();
        set();
        water();
        rule();
        deal();
        seed();
        Due.end("WalkersTest");
    }

    private static void aNewObject() {
        ThirstLead x = new ThirstLead();
        int[] counts = {0, 0, 3, 2, 0, 60, 0, 0, 0, 1};
        for (int i = 0; i < counts.length; i++) {
            Due.is("new: count(" + i + ")", x.count(i), counts[i]);
        }
        int[] band = {0, ThirstLead.NONE, 0, 0, 0, 0, 0};
        for (int i = 0; i < band.length; i++) {
            Due.is("new: band(" + i + ")", x.band(i), band[i]);
        }
        for (int i = 0; i < 4; i++) {
            Due.is("new: reads", x.reads(i), ThirstLead.NOTHING);
        }
        for (int i = 0; i < 5; i++) {
            Due.is("new: rest", x.rest(i, 1), ThirstLead.NOTHING);
        }
        for (int i = 0; i < 3; i++) {
            Due.is("new: why", x.why(i), ThirstLead.NONE);
        }
        Due.is("new: fee", x.fee(), 0);
        Due.is("new: told", x.told(0, 0), BAD);
        Due.is("new: back", x.back(), ThirstLead.NO);
    }

    private static void walker() {
        ThirstLead x = new ThirstLead();
        int[][] bad = {{-1, 0, 0}, {6, 0, 0}, {0, -1, 0}, {0, 31, 0}, {0, 0, -1}, {0, 0, 25}, {Integer.MIN_VALUE, 0, 0}};
        for (int[] b : bad) {
            Due.is("walker, wrong", x.walker(b[0], b[1], b[2]), BAD);
        }
        Due.is("count behind wrong walkers", x.count(0), 0);
        Due.is("walker 0", x.walker(5, 30, 24), 0);
        int[] told = {5, 0, 30, 24, 0, 1, 1, 9, 1, 4};
        for (int i = 0; i < told.length; i++) {
            Due.is("told(0, " + i + ")", x.told(0, i), told[i]);
        }
        for (int i = 1; i < 10; i++) {
            Due.is("walker " + i, x.walker(0, 0, 0), i);
        }
        Due.is("the eleventh", x.walker(0, 0, 0), ThirstLead.FULL);
        Due.is("the eleventh, wrong too", x.walker(6, 0, 0), BAD);
        Due.is("count", x.count(0), 10);
        Due.is("told(-1, 0)", x.told(-1, 0), BAD);
        Due.is("told(10, 0)", x.told(10, 0), BAD);
        Due.is("told(0, -1)", x.told(0, -1), BAD);
        Due.is("told(0, 10)", x.told(0, 10), BAD);
    }

    private static ThirstLead oneOfEach(int skin, int knows) {
        ThirstLead x = new ThirstLead();
        for (int kind = 0; kind < 6; kind++) {
            x.walker(kind, skin, knows);
        }
        return x;
    }

    private static void toldByKinds() {
        ThirstLead x = oneOfEach(10, 24);
        int[] even = {4, 6, 2, 5, 2, 1};
        int[] slakes = {5, 4, 6, 4, 7, 9};
        int[] worth = {10, 18, 89, 36, 86, 4};
        for (int i = 0; i < 6; i++) {
            Due.is("kind " + i, x.told(i, 0), i);
            Due.is("thirsts, kind " + i, x.told(i, 6), even[i]);
            Due.is("slakes, kind " + i, x.told(i, 7), slakes[i]);
            Due.is("worth, kind " + i, x.told(i, 9), worth[i]);
        }
        x = new ThirstLead();
        x.hours(1);
        x.rule(0, 8);
        int[] odd = {9, 11, 4, 10, 5, 1};
        for (int i = 0; i < 6; i++) {
            x.walker(i, 0, 0);
            Due.is("thirsts at an odd hour, kind " + i, x.told(i, 6), odd[i]);
        }
    }

    private static void goes() {
        int[][] rows = {
            // cell, knows, then as a WALKER goes
            {0, 24, 1}, {7, 24, 1}, {0, 0, 0}, {23, 23, 0}, {0, 1, 1}, {0, 11, 1}, {0, 12, 1}, {0, 13, -1}, {0, 23, -1},
            {23, 0, 1}, {20, 8, 1}, {20, 9, -1}, {20, 7, 1}, {12, 0, 1}, {13, 0, 1}, {11, 0, -1}};
        for (int[] row : rows) {
            ThirstLead x = oneOfEach(0, row[1]);
            x.rule(4, row[0]);
            int way = row[2];
            int[] ways = {way, way, way, way, -way, 1};
            for (int i = 0; i < 6; i++) {
                Due.is("goes from " + row[0] + " to " + row[1] + ", kind " + i, x.told(i, 8), ways[i]);
            }
        }
    }

    private static void guideGoes() {
        int[][] rows = {
            // cell, way, then the wells
            {0, 1}, {0, 0, 0}, {0, 0, 0, 1, 23}, {0, 1, 12}, {0, 1, 3, 21}, {0, -1, 3, 22}, {0, 1, 2, 21}, {22, 1, 1},
            {1, -1, 22}, {0, -1, 13}, {0, 1, 11}, {5, 1, 17}, {5, -1, 18}, {5, 0, 5, 6}};
        for (int[] row : rows) {
            ThirstLead x = new ThirstLead();
            x.walker(3, 0, 24);
            x.walker(1, 0, 24);
            x.rule(4, row[0]);
            for (int i = 2; i < row.length; i++) {
                x.water(row[i], 1);
            }
            Due.is("a guide goes " + java.util.Arrays.toString(row), x.told(0, 8), row[1]);
            Due.is("a fat one goes", x.told(1, 8), 1);
        }
    }

    private static void asAndTurns() {
        String[] of = {"100000", "110000", "101000", "110100", "101010", "100001"};
        ThirstLead x = new ThirstLead();
        x.walker(0, 7, 3);
        x.set(0, 1, 33);
        for (int kind = 0; kind < 6; kind++) {
            int was = kind == 0 ? 0 : kind - 1;
            Due.is("turns to " + kind, x.turns(0, kind), was);
            for (int other = 0; other < 6; other++) {
                int want = of[kind].charAt(other) == '1' ? 7 : ThirstLead.KIND;
                Due.is("kind " + kind + " as " + other, x.as(0, other), want);
            }
        }
        Due.is("turns to its own kind", x.turns(0, 5), 5);
        Due.is("thirst stays", x.told(0, 1), 33);
        Due.is("skin stays", x.told(0, 2), 7);
        Due.is("knows stays", x.told(0, 3), 3);
        int[][] bad = {{-1, 0}, {1, 0}, {0, -1}, {0, 6}};
        for (int[] b : bad) {
            Due.is("as, wrong", x.as(b[0], b[1]), BAD);
            Due.is("turns, wrong", x.turns(b[0], b[1]), BAD);
        }
        Due.is("kind behind wrong turns", x.told(0, 0), 5);
    }

    private static void set() {
        ThirstLead x = new ThirstLead();
        x.walker(0, 4, 24);
        Due.is("thirst", x.set(0, 1, 99), 0);
        Due.is("thirst again", x.set(0, 1, 0), 99);
        Due.is("skin", x.set(0, 2, 30), 4);
        Due.is("skin again", x.set(0, 2, 1), 30);
        Due.is("knows", x.set(0, 3, 0), 24);
        Due.is("knows again", x.set(0, 3, 24), 0);
        int[][] bad = {
            {-1, 1, 0}, {1, 1, 0}, {0, 0, 0}, {0, 4, 0}, {0, 1, -1}, {0, 1, 100}, {0, 2, -1}, {0, 2, 31}, {0, 3, -1},
            {0, 3, 25}, {0, Integer.MIN_VALUE, 0}, {0, Integer.MAX_VALUE, 0}};
        for (int[] b : bad) {
            Due.is("set, wrong", x.set(b[0], b[1], b[2]), BAD);
        }
        int[] told = {0, 0, 1, 24, 0, 1};
        for (int i = 0; i < told.length; i++) {
            Due.is("behind wrong sets: told(0, " + i + ")", x.told(0, i), told[i]);
        }
    }

    private static void water() {
        ThirstLead x = new ThirstLead();
        Due.is("water", x.water(0, 99), 0);
        Due.is("water again", x.water(0, 0), 99);
        Due.is("the last cell", x.water(23, 1), 0);
        Due.is("wells", x.band(6), 1 << 23);
        int[][] bad = {{-1, 0}, {24, 0}, {0, -1}, {0, 100}};
        for (int[] b : bad) {
            Due.is("water, wrong", x.water(b[0], b[1]), BAD);
        }
        Due.is("wells stay", x.band(6), 1 << 23);
    }

    private static void rule() {
        ThirstLead x = new ThirstLead();
        int[][] bounds = {{0, 9}, {1, 9}, {0, 100}, {20, 99}, {0, 23}};
        int[] first = {3, 2, 0, 60, 0};
        for (int what = 0; what < 5; what++) {
            int least = bounds[what][0];
            int most = bounds[what][1];
            Due.is("rule " + what + ", most", x.rule(what, most), first[what]);
            Due.is("rule " + what + ", least", x.rule(what, least), most);
            Due.is("rule " + what + ", below", x.rule(what, least - 1), BAD);
            Due.is("rule " + what + ", above", x.rule(what, most + 1), BAD);
            Due.is("rule " + what + ", told", what < 4 ? x.count(what + 2) : x.band(0), least);
        }
        Due.is("rule -1", x.rule(-1, 1), BAD);
        Due.is("rule 5", x.rule(5, 1), BAD);
    }

    private static void deal() {
        ThirstLead x = new ThirstLead();
        Due.is("deal(0)", x.deal(0), BAD);
        Due.is("deal(11)", x.deal(11), BAD);
        Due.is("no draw", x.count(9), 1);
        Due.is("deal(3)", x.deal(3), 3);
        int z = 1;
        for (int i = 0; i < 3; i++) {
            z = next(z);
            Due.is("kind by lot", x.told(i, 0), (z >>> 8) % 6);
            z = next(z);
            Due.is("skin by lot", x.told(i, 2), (z >>> 8) % 31);
            z = next(z);
            Due.is("knows by lot", x.told(i, 3), (z >>> 8) % 25);
        }
        Due.is("z", x.count(9), z);
        Due.is("deal(10), room for 7", x.deal(10), 7);
        for (int i = 0; i < 21; i++) {
            z = next(z);
        }
        Due.is("z behind 7 more", x.count(9), z);
        Due.is("deal without room", x.deal(1), 0);
        Due.is("z as it was", x.count(9), z);
    }

    private static int next(int z) {
        return z * 1103515245 + 12345;
    }

    private static void seed() {
        ThirstLead x = new ThirstLead();
        Due.is("seed", x.seed(Integer.MIN_VALUE), 1);
        Due.is("seed again", x.seed(-7), Integer.MIN_VALUE);
        Due.is("z", x.count(9), -7);
    }
}
