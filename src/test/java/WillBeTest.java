/** Promises 13 to 22: what is only thought, and what fee and fine give. */
public final class WillBeTest {
    private static final int BAD = ThirstLead.BAD, NONE = ThirstLead.NONE;

    public static void main(String[] args) {
        behind();
        lasts();
        salted();
        tells();
        custom();
        enough();
        shown();
        thirsted();
        feeAndFine();
        nothingChanges();
        Due.end("WillBeTest");
    }

    private static ThirstLead steady(int more) {
        ThirstLead x = new ThirstLead();
        Due.textOf(x, "thirst " + more);
        return x;
    }

    private static void behind() {
        ThirstLead x = steady(3);
        x.walker(0, 0, 6);
        x.walker(2, 0, 24);
        x.rule(3, 30);
        Due.is("cell behind 0", x.behind(0, 0), 0);
        Due.is("cell behind 4", x.behind(4, 0), 4);
        Due.is("cell behind 9", x.behind(9, 0), 6);
        Due.is("thirst behind 9", x.behind(9, 3), 27);
        Due.is("thirst of the thin one", x.behind(9, 4), 9);
        Due.is("deaths behind 9", x.behind(9, 1), 0);
        Due.is("deaths behind 10", x.behind(10, 1), 1);
        Due.is("the living behind 10", x.behind(10, 2), 2);
        Due.is("the dead thirst no more", x.behind(12, 3), 30);
        Due.is("all dead behind 30", x.behind(30, 2), 0);
        Due.is("deaths behind 100", x.behind(100, 1), 2);
        Due.is("no third walker", x.behind(1, 5), BAD);
        Due.is("behind(-1, 0)", x.behind(-1, 0), BAD);
        Due.is("behind(101, 0)", x.behind(101, 0), BAD);
        Due.is("behind(0, -1)", x.behind(0, -1), BAD);
        Due.is("behind, far off", x.behind(0, Integer.MAX_VALUE), BAD);
    }

    private static void lasts() {
        ThirstLead x = steady(1);
        Due.is("nobody dies", x.lasts(), NONE);
        x.walker(0, 0, 24);
        Due.is("60 hours", x.lasts(), 60);
        x.set(0, 1, 59);
        Due.is("one hour", x.lasts(), 1);
        x.hours(1);
        Due.is("one is dead by now", x.lasts(), NONE);
        x.walker(5, 0, 0);
        Due.is("the next one", x.lasts(), 60);
        x = steady(0);
        x.walker(0, 0, 24);
        Due.is("without thirst", x.lasts(), NONE);
        x = steady(10);
        x.walker(0, 0, 24);
        x.water(2, 99);
        // They come past the well: thirst 10, then 0 and 10 with a full skin, and 30 cups are 15 hours.
        Due.is("led past a well", x.lasts(), 2 + 15 + 5);
        x = new ThirstLead();
        x.rule(1, 1);
        x.walker(5, 14, 0);
        // 1 more an hour, 9 less by a cup: 14 cups are 126 hours more than the 60 without any.
        Due.is("a camel with 14 cups", x.lasts(), 186);
        x.set(0, 2, 15);
        Due.is("a camel with 15 cups", x.lasts(), 195);
        x.set(0, 2, 16);
        Due.is("a camel with 16 cups", x.lasts(), NONE);
    }

    private static void salted() {
        ThirstLead x = steady(1);
        Due.is("none lives", x.salted(10, 0), NONE);
        Due.is("none lives, deaths", x.salted(10, 1), NONE);
        x.walker(0, 0, 24);
        x.walker(0, 0, 24);
        x.walker(0, 0, 24);
        x.set(0, 1, 25);
        x.set(1, 1, 10);
        Due.is("one that still lives", x.salted(10, 0), 1);
        Due.is("nobody is dead", x.salted(10, 1), 0);
        Due.is("of several the least", x.salted(4, 0), 0);
        Due.is("all die", x.salted(60, 1), 3);
        Due.is("all die: the least", x.salted(60, 0), 0);
        x.set(0, 1, 59);
        x.hours(1);
        Due.is("not the dead one", x.salted(4, 0), 1);
        Due.is("deaths in all", x.salted(4, 1), 1);
        x.set(1, 1, 55);
        // It dies in any case, so that salt is best for it.
        Due.is("who dies anyway", x.salted(40, 0), 1);
        Due.is("and deaths", x.salted(40, 1), 2);
        x = steady(0);
        x.rule(3, 99);
        x.walker(0, 0, 24);
        x.set(0, 1, 68);
        Due.is("98 lives", x.salted(1, 1), 0);
        x.set(0, 1, 90);
        Due.is("99 at most", x.salted(1, 1), 1);
        int[][] bad = {{0, 0}, {61, 0}, {1, -1}, {1, 2}, {-1, 0}};
        for (int[] b : bad) {
            Due.is("salted, wrong", x.salted(b[0], b[1]), BAD);
        }
    }

    private static void tells() {
        ThirstLead x = steady(10);
        x.walker(0, 0, 24);
        x.walker(0, 0, 20);
        x.water(20, 99);
        // 10 more an hour, dead behind 6; the well is 4 cells back; 13 is the least cell whose way leads past it.
        Due.is("on this way all die", x.behind(8, 1), 2);
        Due.is("the cell", x.tells(0, 8, 0), 13);
        Due.is("the deaths", x.tells(0, 8, 1), 0);
        Due.is("the other one does not lead", x.tells(1, 8, 1), 2);
        Due.is("of several the least", x.tells(1, 8, 0), 0);
        Due.is("nobody dies by then", x.tells(0, 5, 0), 0);
        x.water(20, 10);
        Due.is("for 40", x.tells(0, 40, 1), 2);
        Due.is("for 1", x.tells(0, 1, 1), 0);
        int[][] bad = {{-1, 1, 0}, {2, 1, 0}, {0, 0, 0}, {0, 41, 0}, {0, 1, -1}, {0, 1, 2}};
        for (int[] b : bad) {
            Due.is("tells, wrong", x.tells(b[0], b[1], b[2]), BAD);
        }
    }

    private static void custom() {
        ThirstLead x = steady(10);
        x.walker(0, 0, 24);
        x.walker(0, 0, 24);
        x.water(0, 99);
        Due.is("by the well nobody dies", x.custom(6), 2);
        Due.is("not yet", x.custom(5), 0);
        x.water(0, 0);
        x.water(1, 99);
        Due.is("walking past the well", x.custom(6), -2);
        x.water(1, 0);
        Due.is("all die", x.custom(60), 0);
        // Without draws for mirages the heat of each hour is that of one draw an hour.
        x = new ThirstLead();
        x.walker(0, 0, 0);
        x.rule(3, 20);
        int z = 1;
        int led = 0;
        int alone = 0;
        int y = 1;
        for (int n = 1; n <= 12; n++) {
            z = z * 1103515245 + 12345;
            led += (z >>> 8) % 10 + 1;
            z = z * 1103515245 + 12345;
            y = y * 1103515245 + 12345;
            alone += (y >>> 8) % 10 + 1;
            int want = (led >= 20 ? 1 : 0) - (alone >= 20 ? 1 : 0);
            Due.is("custom by heat, " + n, x.custom(n), want);
        }
        Due.is("custom(0)", x.custom(0), BAD);
        Due.is("custom(61)", x.custom(61), BAD);
    }

    private static void enough() {
        ThirstLead x = steady(10);
        Due.is("nobody", x.enough(40), 0);
        x.walker(0, 30, 24);
        Due.is("five hours need none", x.enough(5), 0);
        // 10 more and 2 cups of 5 each hour from 20 on: 2 cups an hour but for those that may be lacking.
        Due.is("six hours", x.enough(6), 1);
        Due.is("seven hours", x.enough(7), 3);
        Due.is("not for 40", x.enough(40), NONE);
        x.walker(5, 0, 24);
        Due.is("a camel as well", x.enough(7), 3);
        x = steady(10);
        x.walker(0, 0, 24);
        // 200 by 20 hours, of which 59 may stay: 29 cups take 145, and 5 more at first ask for one cup more.
        Due.is("29 are enough", x.enough(20), 29);
        x.set(0, 1, 5);
        Due.is("30 are enough", x.enough(20), 30);
        Due.is("30 are not", x.enough(21), NONE);
        x = steady(0);
        x.rule(3, 20);
        x.rule(1, 9);
        x.walker(0, 0, 24);
        x.set(0, 1, 80);
        // 9 cups are 45: 35 is still deadly.
        Due.is("no skin is enough", x.enough(1), NONE);
        x.hours(1);
        Due.is("of the dead nothing is asked", x.enough(1), 0);
        Due.is("enough(0)", x.enough(0), BAD);
        Due.is("enough(41)", x.enough(41), BAD);
    }

    private static void shown() {
        ThirstLead x = steady(0);
        Due.is("nobody", x.shown(100), 1);
        x.walker(0, 0, 3);
        Due.is("one hour", x.shown(1), 2);
        Due.is("three cells", x.shown(50), 14);
        x.rule(4, 23);
        Due.is("across the end", x.shown(2), 3);
        x.set(0, 3, 24);
        Due.is("all cells", x.shown(24), (1 << 24) - 1);
        Due.is("all but the first", x.shown(23), (1 << 23) - 1);
        Due.is("shown(0)", x.shown(0), BAD);
        Due.is("shown(101)", x.shown(101), BAD);
    }

    private static void thirsted() {
        ThirstLead x = steady(4);
        x.walker(0, 0, 24);
        x.sheet(0, 0, 3);
        x.mark(0, 0, 11);
        x.mark(0, 1, 13);
        x.mark(0, 2, 20);
        // From 10: 10, 14, 18: 1 + 1 + 2.
        Due.is("the thirst", x.thirsted(0, 0, 0), 10);
        Due.is("the differences", x.thirsted(0, 0, 1), 4);
        x.sheet(1, 1, 3);
        x.mark(1, 0, NONE);
        x.mark(1, 1, NONE);
        x.mark(1, 2, 15);
        // 5 gives 13 and 10 gives 18.
        Due.is("numbers alone", x.thirsted(1, 0, 0), 5);
        Due.is("numbers alone, differences", x.thirsted(1, 0, 1), 2);
        x.mark(1, 2, NONE);
        Due.is("no numbers", x.thirsted(1, 0, 0), 0);
        Due.is("no numbers, differences", x.thirsted(1, 0, 1), 0);
        x.sheet(2, 0, 0);
        Due.is("no places", x.thirsted(2, 0, 0), 0);
        Due.is("no places, differences", x.thirsted(2, 0, 1), 0);
        x.sheet(2, 0, 1);
        x.mark(2, 0, 32767);
        Due.is("95 at most", x.thirsted(2, 0, 0), 95);
        Due.is("95 at most, differences", x.thirsted(2, 0, 1), 32767 - 95);
        x.mark(2, 0, -3);
        Due.is("below 0", x.thirsted(2, 0, 1), 3);
        Due.is("its thirst stays", x.told(0, 1), 0);
        x.water(1, 99);
        x.sheet(2, 0, 2);
        x.mark(2, 0, 50);
        x.mark(2, 1, 4);
        Due.is("led to a well", x.thirsted(2, 0, 0), 50);
        Due.is("led to a well, differences", x.thirsted(2, 0, 1), 0);
        Due.is("missing", x.thirsted(3, 0, 0), ThirstLead.NOTHING);
        int[][] bad = {{-1, 0, 0}, {4, 0, 0}, {3, -1, 0}, {3, 1, 0}, {3, 0, -1}, {3, 0, 2}};
        for (int[] b : bad) {
            Due.is("thirsted, wrong", x.thirsted(b[0], b[1], b[2]), BAD);
        }
    }

    private static void feeAndFine() {
        ThirstLead x = steady(0);
        x.rule(2, 100);
        x.walker(0, 9, 24);
        x.walker(0, 3, 24);
        x.set(0, 1, 99);
        x.rule(1, 1);
        x.hours(1);
        x.hours(2);
        Due.is("deaths", x.fee(), 1);
        Due.is("led", x.fine(0), 1);
        Due.is("led twice", x.fine(1), 2);
        Due.textOf(x, "fee d*100+l");
        Due.textOf(x, "fine s*100+l");
        Due.is("fee by its text", x.fee(), 103);
        Due.is("fine of the dead", x.fine(0), 1);
        Due.is("fine by its text", x.fine(1), 1102);
        Due.textOf(x, "fee 0-5");
        Due.is("the text told last", x.fee(), -5);
        Due.is("fine(-1)", x.fine(-1), BAD);
        Due.is("fine(2)", x.fine(2), BAD);
    }

    private static void nothingChanges() {
        ThirstLead x = new ThirstLead();
        x.deal(8);
        x.water(3, 60);
        x.rule(2, 20);
        x.sheet(0, 0, 24);
        x.hours(7);
        int[] before = look(x);
        x.behind(50, 1);
        x.lasts();
        x.salted(60, 0);
        x.tells(3, 40, 0);
        x.custom(60);
        x.enough(40);
        x.shown(100);
        x.thirsted(0, 2, 0);
        x.fee();
        x.fine(1);
        Due.holds("thoughts change nothing", java.util.Arrays.equals(before, look(x)));
    }

    private static int[] look(ThirstLead x) {
        int[] seen = new int[97];
        int at = 0;
        for (int i = 0; i < 8; i++) {
            for (int k = 0; k < 10; k++) {
                seen[at++] = x.told(i, k);
            }
        }
        for (int k = 0; k < 7; k++) {
            seen[at++] = x.band(k);
        }
        for (int k = 0; k < 10; k++) {
            seen[at++] = x.count(k);
        }
        return seen;
    }
}
