/** The edges that the document names for promises 37 to 41, a sentence a test. */
public final class EdgesOfImagesTest {
    private static final int BAD = ThirstLead.BAD, NO = ThirstLead.NO, FULL = ThirstLead.FULL;
    private static final int LEAST = Integer.MIN_VALUE, MOST = Integer.MAX_VALUE;

    public static void main(String[] args) throws Exception {
        Edges.run(EdgesOfImagesTest.class);
    }

    /** A band of two that walks to cell 2 and stays there, 3 more THIRST an HOUR each; an IMAGE is kept. */
    private static ThirstLead kept() {
        ThirstLead x = Bands.steady(3);
        x.walker(0, 0, 2);
        x.walker(0, 0, 24);
        x.keep();
        return x;
    }

    private static int checkOf(ThirstLead x, int n, int... numbers) {
        for (int v : numbers) {
            x.tell(v);
        }
        return x.check(n);
    }

    // ---- 37, tell

    @Says("One more number waits: how many. FULL: 60 wait.")
    private static void promise37_sixtyWaitAtMost() {
        ThirstLead x = new ThirstLead();
        for (int i = 1; i <= 60; i++) {
            Due.is("tell " + i, x.tell(0), i);
        }
        Due.is("the next one", x.tell(0), FULL);
        Due.is("numbers that wait", x.count(7), 60);
        Twins.Made full = () -> {
            ThirstLead y = Bands.rich(4);
            for (int i = y.count(7); i < 60; i++) {
                y.tell(1);
            }
            return y;
        };
        Twins.changesNothing("tell(1)", full, y -> y.tell(1), FULL);
    }

    @Says("FULL: 60 wait.")
    private static void promise37_theSixtyAreAsTheyWere() {
        ThirstLead x = kept();
        for (int v : Bands.hoursTold(kept(), 30)) {
            x.tell(v);
        }
        Due.is("the next one", x.tell(-1), FULL);
        Due.is("check(30)", x.check(30), 0);
    }

    @Says("One more number waits: how many.")
    private static void promise37_anyNumber() {
        ThirstLead x = new ThirstLead();
        int[] all = {LEAST, MOST, -1, BAD, FULL};
        for (int i = 0; i < all.length; i++) {
            Due.is("tell(" + all[i] + ")", x.tell(all[i]), i + 1);
        }
    }

    // ---- 38, check

    @Says({"BAD; NO: there is no IMAGE.", "of several the one that stands first with it"})
    private static void promise38_badComesAheadOfNo() {
        int[] bad = {0, 31, -1, LEAST, MOST};
        for (int n : bad) {
            Due.is("check(" + n + ") without an IMAGE", new ThirstLead().check(n), BAD);
            Due.is("check(" + n + ") with one", kept().check(n), BAD);
        }
        Due.is("check(1) without an IMAGE", new ThirstLead().check(1), NO);
        Due.is("check(30) without an IMAGE", new ThirstLead().check(30), NO);
    }

    @Says("The numbers that wait (none do then, whatever is answered)")
    private static void promise38_noneWaitThen() {
        Twins.Made noImage = () -> {
            ThirstLead x = new ThirstLead();
            x.tell(5);
            x.tell(6);
            return x;
        };
        Due.is("NO", noImage.it().check(1), NO);
        int[][] rows = {{0, BAD}, {31, BAD}, {1, NO}};
        for (int[] row : rows) {
            ThirstLead x = noImage.it();
            Due.is("check(" + row[0] + ")", x.check(row[0]), row[1]);
            Due.is("numbers that wait", x.count(7), 0);
            Due.is("the next one is the first", x.tell(1), 1);
        }
        ThirstLead x = kept();
        Due.is("right", checkOf(x, 1, 1, 6), 0);
        Due.is("behind right", x.count(7), 0);
        Due.is("wrong", checkOf(x, 1, 1, 7), 2);
        Due.is("behind wrong", x.count(7), 0);
        Due.is("too many", checkOf(x, 1, 1, 6, 1), 3);
        Due.is("behind too many", x.count(7), 0);
    }

    @Says({"BAD; NO: there is no IMAGE.", "changes nothing (but the tape and the numbers that wait, where told)"})
    private static void promise38_aRefusedCheckChangesNothingElse() {
        Twins.Call usesThemUp = x -> x.check(1);
        Twins.changesAs("check(0)", () -> Bands.rich(4), x -> x.check(0), BAD, usesThemUp);
        Twins.changesAs("check(31)", () -> Bands.rich(4), x -> x.check(31), BAD, usesThemUp);
        Twins.changesAs("check(2)", () -> Bands.rich(4), x -> x.check(2), 0, usesThemUp);
        Twins.changesAs("check(30)", () -> Bands.rich(4), x -> x.check(30), 5, usesThemUp);
    }

    @Says("else 1 and how many stand right ahead of the first that is not (or is missing, or one too many)")
    private static void promise38_theFirstThatIsNotOrMissingOrTooMany() {
        ThirstLead x = kept();
        int[] right = {1, 6, 2, 12, 2, 18};
        Due.is("right", checkOf(x, 3, right), 0);
        for (int i = 0; i < 6; i++) {
            int[] wrong = right.clone();
            wrong[i]++;
            Due.is("wrong at " + i, checkOf(x, 3, wrong), 1 + i);
            Due.is("missing from " + i + " on", checkOf(x, 3, java.util.Arrays.copyOf(right, i)), 1 + i);
        }
        Due.is("one too many", checkOf(x, 3, 1, 6, 2, 12, 2, 18, 2), 7);
        Due.is("an HOUR too many", checkOf(x, 3, 1, 6, 2, 12, 2, 18, 2, 24), 7);
        Due.is("one too many for 1", checkOf(x, 1, 1, 6, 2), 3);
        Due.is("wrong comes ahead of too many", checkOf(x, 1, 1, 7, 2), 2);
        Due.is("wrong comes ahead of missing", checkOf(x, 3, 1, 6, 1), 3);
    }

    @Says({"are THE HOURS TOLD of n (1 .. 30;", "two by two: 0;"})
    private static void promise38_thirtyHours() {
        ThirstLead x = kept();
        for (int i = 1; i <= 30; i++) {
            x.tell(Math.min(i, 2));
            x.tell(i < 20 ? 6 * i : 0);
        }
        Due.is("thirty HOURS are sixty numbers", x.check(30), 0);
        for (int i = 1; i <= 29; i++) {
            x.tell(Math.min(i, 2));
            x.tell(i < 20 ? 6 * i : 0);
        }
        Due.is("the thirtieth is missing", x.check(30), 59);
        for (int i = 1; i <= 30; i++) {
            x.tell(Math.min(i, 2));
            x.tell(i < 20 ? 6 * i : 0);
        }
        Due.is("the thirtieth is too many", x.check(29), 59);
    }

    @Says("fewer, if THE HOUR would be above 9999")
    private static void promise38_noHourAbove9999() {
        int[][] rows = {{9997, 2}, {9998, 1}, {9999, 0}};
        for (int[] row : rows) {
            ThirstLead x = Bands.atHour(row[0]);
            x.walker(5, 0, 0);
            x.keep();
            int[] told = {1, 1, 2, 2, 3, 3};
            for (int n = 1; n < 4; n++) {
                int due = Math.min(n, row[1]);
                String name = "check(" + n + ") at " + row[0];
                Due.is(name, checkOf(x, n, java.util.Arrays.copyOf(told, 2 * due)), 0);
                Due.is(name + ", one too many", checkOf(x, n, java.util.Arrays.copyOf(told, 2 * due + 1)), 2 * due + 1);
            }
            Due.is("THE HOUR stays", x.count(1), row[0]);
        }
    }

    @Says("THE HOURS TOLD: of n HOURS, one behind the other, by THE IMAGE")
    private static void promise38_byTheImageNotByNow() {
        ThirstLead x = kept();
        x.hours(7);
        x.set(0, 1, 50);
        x.rule(4, 9);
        Due.textOf(x, "thirst 1");
        Due.is("by THE IMAGE", checkOf(x, 2, 1, 6, 2, 12), 0);
        Due.is("THE HOUR stays", x.count(1), 7);
        x = Bands.atHour(9990);
        x.walker(5, 0, 0);
        x.keep();
        x.hours(9);
        Due.is("the IMAGE has HOURS left", checkOf(x, 2, 1, 1, 2, 2), 0);
        x = new ThirstLead();
        x.walker(5, 0, 0);
        x.keep();
        Bands.passTo(x, 9999);
        Due.is("the IMAGE is of HOUR 0", checkOf(x, 2, 1, 1, 2, 2), 0);
    }

    @Says("the cell of THE BAND; THIRST of all that LIVE, together, behind each.")
    private static void promise38_thirstOfTheLivingBehindEachHour() {
        ThirstLead x = kept();
        x.set(0, 1, 57);
        x.keep();
        Due.is("one dies in the first HOUR", checkOf(x, 2, 1, 3, 2, 6), 0);
        x = new ThirstLead();
        x.rule(4, 23);
        x.keep();
        Due.is("nobody", checkOf(x, 3, 23, 0, 23, 0, 23, 0), 0);
        x = Bands.rich(10);
        x.check(1);
        Due.is("as hours() would have it", checkOf(x, 30, Bands.hoursTold(backOf(Bands.rich(10)), 30)), 0);
    }

    // ---- 39, keep

    @Says("AN IMAGE is kept: how many WALKERS.")
    private static void promise39_fromNoneToTenWalkers() {
        ThirstLead x = new ThirstLead();
        for (int i = 0; i <= 10; i++) {
            Due.is("keep()", x.keep(), i);
            x.walker(0, 0, 0);
            Due.is("back()", x.back(), i);
            Due.is("count(0)", x.count(0), i);
            x.walker(0, 0, 0);
        }
        x = kept();
        x.set(0, 1, 60);
        x.hours(1);
        Due.is("with a dead one", x.keep(), 2);
    }

    @Says("AN IMAGE keeps all but SHEETS, SLOTS, numbers that wait, THE TAPE")
    private static void promise39_keepingChangesNothing() {
        Twins.Made made = () -> {
            ThirstLead x = Bands.rich(10);
            x.back();
            return x;
        };
        Twins.changesNothing("keep() of what THE IMAGE is", made, ThirstLead::keep, 10);
    }

    @Says("AN IMAGE is kept: how many WALKERS.")
    private static void promise39_theLatestImageCounts() {
        ThirstLead x = new ThirstLead();
        x.walker(0, 0, 0);
        x.keep();
        x.set(0, 1, 5);
        x.water(7, 8);
        x.keep();
        x.set(0, 1, 6);
        x.back();
        Due.is("THIRST", x.told(0, 1), 5);
        Due.is("WATER", x.water(7, 0), 8);
    }

    // ---- 40, back

    @Says("All is as THE IMAGE: how many WALKERS. NO: there is none.")
    private static void promise40_noImage() {
        Twins.Made none = () -> {
            ThirstLead x = new ThirstLead();
            x.deal(3);
            x.hours(4);
            x.tell(3);
            x.feed(1, 2, 3);
            return x;
        };
        Twins.changesNothing("back()", none, ThirstLead::back, NO);
        Twins.changesNothing("back() of a new one", ThirstLead::new, ThirstLead::back, NO);
    }

    @Says("all can become as it is (again and again)")
    private static void promise40_againAndAgain() {
        int[] first = look(backOf(Bands.rich(10)));
        ThirstLead x = Bands.rich(10);
        for (int again = 0; again < 2; again++) {
            x.deal(10);
            x.turns(0, 5);
            x.set(0, 1, 50);
            x.set(1, 2, 1);
            x.set(3, 3, 11);
            for (int what = 0; what < 5; what++) {
                x.rule(what, what == 3 ? 21 : 8);
            }
            x.water(3, 1);
            x.water(17, 2);
            x.seed(99);
            Due.textOf(x, "thirst 40");
            Due.textOf(x, "fine 1");
            x.hours(30);
            Due.is("back()", x.back(), 10);
            Due.holds("all is as THE IMAGE", java.util.Arrays.equals(first, look(x)));
        }
    }

    private static ThirstLead backOf(ThirstLead x) {
        x.back();
        return x;
    }

    /** All that an IMAGE keeps; what is looked at stays as it is. */
    private static int[] look(ThirstLead x) {
        int[] seen = new int[170];
        int at = 0;
        for (int i = 0; i < 10; i++) {
            for (int what = 0; what < 10; what++) {
                seen[at++] = x.told(i, what);
            }
            seen[at++] = x.fine(i);
        }
        for (int what = 0; what < 7; what++) {
            seen[at++] = x.count(what);
            seen[at++] = x.band(what);
        }
        for (int key = 0; key < 3; key++) {
            seen[at++] = x.why(key);
        }
        for (int cell = 0; cell < 24; cell++) {
            seen[at] = x.water(cell, 0);
            x.water(cell, seen[at++]);
        }
        seen[at++] = x.count(9);
        seen[at++] = x.fee();
        return seen;
    }

    @Says("AN IMAGE keeps all but SHEETS, SLOTS, numbers that wait, THE TAPE")
    private static void promise40_sheetsSlotsNumbersAndTheTapeStay() {
        ThirstLead x = new ThirstLead();
        x.sheet(0, 0, 1);
        x.lay(0, 3, 5);
        x.tell(1);
        x.feed(0x66656520, 0x31202020, 0x20202020);
        x.keep();
        x.mark(0, 0, 9);
        x.sheet(1, 1, 2);
        x.lay(0, 3, 6);
        x.lay(1, 3, 7);
        x.tell(2);
        x.trim(5);
        x.back();
        Due.is("a SHEET", x.lay(2, 2, 0), 0);
        Due.is("its place", x.item(2, 0), 9);
        Due.is("another SHEET", x.mark(1, 1, 1), 1);
        Due.is("a SLOT", x.rest(0, 10), 6);
        Due.is("another SLOT", x.rest(1, 10), 7);
        Due.is("numbers that wait", x.count(7), 2);
        Due.is("bytes of THE TAPE", x.count(8), 5);
        Due.is("text()", x.text(), 0);
    }

    @Says({"AN IMAGE keeps all but SHEETS, SLOTS, numbers that wait, THE TAPE", "TEXTS, 14 at most"})
    private static void promise40_textsGoBackTooAndThereIsRoomAgain() {
        ThirstLead x = new ThirstLead();
        Due.textOf(x, "fee 100");
        x.keep();
        for (int again = 0; again < 2; again++) {
            for (int i = 1; i < 14; i++) {
                Due.is("text " + i, Due.textOf(x, "fee " + i), i);
            }
            Due.is("the fifteenth", Due.textOf(x, "fee 99"), FULL);
            Due.is("back()", x.back(), 0);
            Due.is("TEXTS", x.count(6), 1);
            Due.is("why(1)", x.why(1), 0);
            Due.is("fee()", x.fee(), 100);
            Due.is("textTold(1, 0)", x.textTold(1, 0), BAD);
        }
        for (int i = 1; i < 14; i++) {
            Due.textOf(x, "fee " + i);
        }
        x.keep();
        x.back();
        Due.is("fourteen are kept", x.count(6), 14);
        Due.is("still full", Due.textOf(x, "fee 99"), FULL);
    }

    @Says("THE HOUR is 0 at first, 9999 at most.")
    private static void promise40_theHourGoesBack() {
        ThirstLead x = new ThirstLead();
        x.keep();
        Bands.passTo(x, 9999);
        x.back();
        Due.is("THE HOUR", x.count(1), 0);
        Due.is("hours(1)", x.hours(1), 0);
        Due.is("THE HOUR goes on", x.count(1), 1);
    }

    // ---- 41, count

    @Says("7 numbers that wait, 8 bytes of THE TAPE, 9 z. BAD.")
    private static void promise41_badWhats() {
        int[] bad = {-1, 10, LEAST, MOST};
        for (int what : bad) {
            Twins.changesNothing("count(" + what + ")", () -> Bands.rich(4), x -> x.count(what), BAD);
        }
    }

    @Says("0 how many WALKERS, 1 THE HOUR, 2 HEAT, 3 SIP, 4 MIRAGE, 5 DEADLY, 6 TEXTS, 7 numbers that wait, 8 bytes of THE TAPE, 9 z.")
    private static void promise41_theMostOfEach() {
        ThirstLead x = Bands.atHour(9999);
        x.deal(10);
        x.rule(0, 9);
        x.rule(1, 9);
        x.rule(2, 100);
        x.rule(3, 99);
        for (int i = 0; i < 14; i++) {
            Due.textOf(x, "fee 1");
        }
        for (int i = 0; i < 60; i++) {
            x.tell(i);
        }
        for (int i = 0; i < 8; i++) {
            x.feed(0, 0, 0);
        }
        x.seed(MOST);
        int[] want = {10, 9999, 9, 9, 100, 99, 14, 60, 96, MOST};
        for (int what = 0; what < 10; what++) {
            Due.is("count(" + what + ")", x.count(what), want[what]);
        }
    }
}
