/** Promises 37 to 41: numbers that wait, the hours told, images, counts. */
public final class ImagesTest {
    private static final int BAD = ThirstLead.BAD, NO = ThirstLead.NO, FULL = ThirstLead.FULL;

    public static void main(String[] args) {
        tell();
        check();
        checkByTheImage();
        keepAndBack();
        textsOfAnImage();
        count();
        Due.end("ImagesTest");
    }

    private static void tell() {
        ThirstLead x = new ThirstLead();
        for (int i = 1; i <= 60; i++) {
            Due.is("tell " + i, x.tell(-i), i);
        }
        Due.is("60 wait", x.tell(0), FULL);
        Due.is("count", x.count(7), 60);
        Due.is("no image", x.check(1), NO);
        Due.is("none wait", x.count(7), 0);
        x.tell(4);
        Due.is("bad ahead of no", x.check(0), BAD);
        Due.is("none wait behind bad", x.count(7), 0);
        Due.is("one again", x.tell(1), 1);
    }

    /** A band that walks to 2 and there stays, 3 more thirst an hour each. */
    private static ThirstLead kept() {
        ThirstLead x = new ThirstLead();
        Due.textOf(x, "thirst 3");
        x.walker(0, 0, 2);
        x.walker(0, 0, 24);
        x.keep();
        return x;
    }

    private static int checkOf(ThirstLead x, int n, int... numbers) {
        for (int v : numbers) {
            x.tell(v);
        }
        return x.check(n);
    }

    private static void check() {
        ThirstLead x = kept();
        Due.is("right", checkOf(x, 3, 1, 6, 2, 12, 2, 18), 0);
        Due.is("none wait", x.count(7), 0);
        Due.is("the cell is wrong", checkOf(x, 3, 1, 6, 3, 12, 2, 18), 3);
        Due.is("the thirst is wrong", checkOf(x, 3, 1, 7, 2, 12, 2, 18), 2);
        Due.is("the first", checkOf(x, 3, 0, 6, 2, 12, 2, 18), 1);
        Due.is("the last", checkOf(x, 3, 1, 6, 2, 12, 2, 19), 6);
        Due.is("one is missing", checkOf(x, 3, 1, 6, 2, 12, 2), 6);
        Due.is("all are missing", checkOf(x, 3), 1);
        Due.is("one too many", checkOf(x, 3, 1, 6, 2, 12, 2, 18, 2), 7);
        Due.is("two too many", checkOf(x, 1, 1, 6, 2, 12), 3);
        Due.is("wrong ahead of missing", checkOf(x, 3, 1, 6, 3), 3);
        Due.is("check(0)", x.check(0), BAD);
        Due.is("check(31)", x.check(31), BAD);
        Due.is("check(-1)", x.check(-1), BAD);
        // 60 thirst behind 20 hours: both are dead then, and thirst of those that live is 0.
        for (int i = 1; i <= 30; i++) {
            x.tell(Math.min(i, 2));
            x.tell(i < 20 ? 6 * i : 0);
        }
        Due.is("thirty hours", x.check(30), 0);
    }

    private static void checkByTheImage() {
        ThirstLead x = kept();
        x.hours(5);
        x.walker(5, 0, 0);
        Due.textOf(x, "thirst 9");
        Due.is("from the image, by its texts", checkOf(x, 2, 1, 6, 2, 12), 0);
        Due.is("nothing went back", x.count(1), 5);
        Due.is("nothing went back: walkers", x.count(0), 3);
        x = new ThirstLead();
        for (int i = 0; i < 100; i++) {
            x.hours(i == 99 ? 97 : 100);
        }
        x.walker(5, 0, 0);
        x.keep();
        Due.is("9997", x.count(1), 9997);
        Due.is("two hours are left", checkOf(x, 5, 1, 1, 2, 2), 0);
        Due.is("no third one", checkOf(x, 5, 1, 1, 2, 2, 3, 3), 5);
        Due.is("one hour", checkOf(x, 1, 1, 1), 0);
    }

    private static void keepAndBack() {
        ThirstLead x = new ThirstLead();
        Due.is("no image", x.back(), NO);
        x.walker(3, 11, 24);
        x.set(0, 1, 17);
        x.water(5, 50);
        x.rule(2, 30);
        x.hours(3);
        Due.is("keep", x.keep(), 1);
        int[] before = look(x);
        for (int again = 0; again < 2; again++) {
            x.walker(1, 1, 1);
            x.turns(0, 4);
            x.set(0, 1, 70);
            x.water(5, 3);
            x.water(9, 3);
            for (int what = 0; what < 5; what++) {
                x.rule(what, 9 + (what == 3 ? 12 : 0));
            }
            x.seed(5);
            x.hours(9);
            Due.textOf(x, "fee 77");
            x.sheet(0, 0, 2);
            x.mark(0, 1, 6);
            x.lay(0, 3, 8);
            x.check(1);
            x.tell(3);
            x.feed(1, 2, 3);
            Due.holds("it is otherwise", !java.util.Arrays.equals(before, look(x)));
            Due.is("back", x.back(), 1);
            Due.holds("as it was", java.util.Arrays.equals(before, look(x)));
            Due.is("texts go back", x.count(6), 0);
            Due.is("fee goes back", x.fee(), x.band(2));
            Due.is("numbers stay", x.count(7), 1);
            Due.is("the tape stays", x.count(8), 12);
            x.lay(4, 2, 0);
            Due.is("sheets stay", x.item(4, 1), 6);
            Due.is("slots stay", x.rest(0, 5), 3);
            x.trim(0);
        }
        x.walker(0, 0, 0);
        Due.is("a new image", x.keep(), 2);
        x.walker(0, 0, 0);
        Due.is("back to it", x.back(), 2);
        Due.is("the hour", x.count(1), 3);
    }

    private static int[] look(ThirstLead x) {
        int[] seen = new int[10 + 7 + 9];
        int at = 0;
        for (int k = 0; k < 10; k++) {
            seen[at++] = x.told(0, k);
        }
        for (int k = 0; k < 7; k++) {
            seen[at++] = x.band(k);
        }
        int[] counts = {0, 1, 2, 3, 4, 5, 6, 9};
        for (int k : counts) {
            seen[at++] = x.count(k);
        }
        int water = x.water(5, 0);
        x.water(5, water);
        seen[at] = water;
        return seen;
    }

    private static void textsOfAnImage() {
        ThirstLead x = new ThirstLead();
        Due.textOf(x, "fee 1");
        x.keep();
        Due.is("second", Due.textOf(x, "fee 2"), 1);
        x.back();
        Due.is("one text", x.count(6), 1);
        Due.is("the first counts", x.why(1), 0);
        Due.is("and gives", x.fee(), 1);
        Due.is("no second one", x.textTold(1, 0), BAD);
        Due.is("another second one", Due.textOf(x, "fine 3+4"), 1);
        Due.is("its key", x.textTold(1, 0), 2);
        Due.is("the first still counts", x.fee(), 1);
        x.back();
        for (int i = 1; i < 14; i++) {
            Due.is("text " + i, Due.textOf(x, "fee 5"), i);
        }
        Due.is("full", Due.textOf(x, "fee 5"), FULL);
        x.back();
        Due.is("room again", Due.textOf(x, "fee 6"), 1);
        Due.is("and it gives", x.fee(), 6);
    }

    private static void count() {
        ThirstLead x = new ThirstLead();
        x.walker(0, 0, 0);
        x.hours(2);
        x.rule(0, 7);
        x.rule(1, 4);
        x.rule(2, 11);
        x.rule(3, 44);
        Due.textOf(x, "fee 1");
        x.tell(9);
        x.tell(9);
        x.tell(9);
        x.feed(0, 0, 0);
        x.trim(5);
        x.seed(-123);
        int[] want = {1, 2, 7, 4, 11, 44, 1, 3, 5, -123};
        for (int i = 0; i < want.length; i++) {
            Due.is("count(" + i + ")", x.count(i), want[i]);
        }
        Due.is("count(-1)", x.count(-1), BAD);
        Due.is("count(10)", x.count(10), BAD);
    }
}
