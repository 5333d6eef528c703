/** The edges that the document names for promises 28 to 36, a sentence a test. */
public final class EdgesOfSheetsTest {
    private static final int BAD = ThirstLead.BAD, NO = ThirstLead.NO, NONE = ThirstLead.NONE, NOTHING = ThirstLead.NOTHING;
    private static final int KIND = ThirstLead.KIND, INDEX = ThirstLead.INDEX, SIZE = ThirstLead.SIZE;
    private static final int LEAST = Integer.MIN_VALUE, MOST = Integer.MAX_VALUE;
    private static final int SHORTS = 0, FLOATS = 1;

    public static void main(String[] args) throws Exception {
        Edges.run(EdgesOfSheetsTest.class);
    }

    /**
     * Refused in a band in which SHEET 0 is of 5 shorts, 1 of 5 floats (2 NO NUMBER), 2 of no shorts, 3 MISSING, and
     * SLOTS 0 to 3 hold a WALKER, floats, a number, shorts, SLOT 4 nothing.
     */
    private static void refused(String name, Twins.Call call, int want) {
        Twins.changesNothing(name, () -> Bands.rich(4), call, want);
    }

    /** What stands at a place, by way of the last slot. */
    private static int at(ThirstLead x, int sheet, int place) {
        x.lay(4, 2, sheet);
        return x.item(4, place);
    }

    // ---- 28, sheet

    @Says("BAD: sheet, sort, n above 24; SIZE.")
    private static void promise28_badSheetsAndBadSorts() {
        int[] sheets = {-1, 4, LEAST, MOST};
        for (int sheet : sheets) {
            refused("sheet(" + sheet + ", 0, 1)", x -> x.sheet(sheet, 0, 1), BAD);
            refused("sheet(" + sheet + ", -1, 0)", x -> x.sheet(sheet, -1, 0), BAD);
        }
        int[] sorts = {-2, 2, LEAST, MOST};
        for (int sort : sorts) {
            refused("sheet(0, " + sort + ", 1)", x -> x.sheet(0, sort, 1), BAD);
        }
    }

    @Says({"with 0 to 24 places, or MISSING", "n above 24; SIZE."})
    private static void promise28_from0To24Places() {
        for (int sort = 0; sort < 2; sort++) {
            int s = sort;
            ThirstLead x = new ThirstLead();
            Due.is("no places", x.sheet(3, s, 0), 0);
            Due.is("there is none", x.mark(3, 0, 0), INDEX);
            Due.is("it is not MISSING", x.reads(3), NONE);
            Due.is("24 places", x.sheet(3, s, 24), 24);
            Due.is("the last", x.mark(3, 23, 1), 1);
            Due.is("none beyond", x.mark(3, 24, 1), INDEX);
            refused("sheet(0, " + s + ", 25)", y -> y.sheet(0, s, 25), BAD);
            refused("sheet(0, " + s + ", the most)", y -> y.sheet(0, s, MOST), BAD);
        }
    }

    @Says("SIZE: a number of places is below 0")
    private static void promise28_placesBelow0() {
        for (int sort = 0; sort < 2; sort++) {
            int s = sort;
            refused("sheet(0, " + s + ", -1)", x -> x.sheet(0, s, -1), SIZE);
            refused("sheet(1, " + s + ", the least)", x -> x.sheet(1, s, LEAST), SIZE);
            refused("sheet(3, " + s + ", -1)", x -> x.sheet(3, s, -1), SIZE);
        }
    }

    @Says({"BAD: sheet, sort, n above 24; SIZE.", "of several the one that stands first with it"})
    private static void promise28_badComesAheadOfSize() {
        refused("sheet(4, 0, -1)", x -> x.sheet(4, 0, -1), BAD);
        refused("sheet(-1, 1, -1)", x -> x.sheet(-1, 1, -1), BAD);
        refused("sheet(0, 2, -1)", x -> x.sheet(0, 2, -1), BAD);
        refused("sheet(0, -2, -1)", x -> x.sheet(0, -2, -1), BAD);
    }

    @Says("(sort -1: MISSING, n any): n (0)")
    private static void promise28_missingWithAnyN() {
        int[] all = {0, 1, 24, 25, -1, LEAST, MOST};
        for (int n : all) {
            ThirstLead x = new ThirstLead();
            x.sheet(0, 0, 3);
            Due.is("sheet(0, -1, " + n + ")", x.sheet(0, -1, n), 0);
            Due.is("it is MISSING", x.mark(0, 0, 1), NOTHING);
            Due.is("MISSING once more", x.sheet(0, -1, n), 0);
        }
    }

    @Says("A SHEET becomes a row of n places of a sort, all 0")
    private static void promise28_allPlacesAre0() {
        ThirstLead x = new ThirstLead();
        x.sheet(0, FLOATS, 24);
        for (int i = 0; i < 24; i++) {
            x.mark(0, i, i % 2 == 0 ? NONE : 70000);
        }
        x.sheet(0, SHORTS, 24);
        x.lay(0, 2, 0);
        for (int i = 0; i < 24; i++) {
            Due.is("place " + i, x.item(0, i), 0);
        }
        x.sheet(0, SHORTS, 2);
        x.mark(0, 1, 5);
        x.sheet(0, SHORTS, 2);
        Due.is("the same sort and size again", at(x, 0, 1), 0);
        x.sheet(0, -1, 0);
        x.sheet(0, FLOATS, 2);
        Due.is("behind MISSING", at(x, 0, 1), 0);
    }

    // ---- 29, mark

    @Says({"BAD: sheet; NOTHING; INDEX; KIND: NONE in a row of shorts; BAD: v of floats.", "of several the one that stands first with it"})
    private static void promise29_whichRefusalComesFirst() {
        int[] sheets = {-1, 4, LEAST, MOST};
        for (int sheet : sheets) {
            refused("mark(" + sheet + ", 99, NONE)", x -> x.mark(sheet, 99, NONE), BAD);
        }
        refused("mark(3, 0, 0)", x -> x.mark(3, 0, 0), NOTHING);
        refused("mark(3, -1, NONE)", x -> x.mark(3, -1, NONE), NOTHING);
        refused("mark(3, 99, 100000)", x -> x.mark(3, 99, 100000), NOTHING);
        refused("mark(0, 5, NONE)", x -> x.mark(0, 5, NONE), INDEX);
        refused("mark(1, 5, 100000)", x -> x.mark(1, 5, 100000), INDEX);
        refused("mark(2, 0, NONE)", x -> x.mark(2, 0, NONE), INDEX);
    }

    @Says("INDEX: there is no such place")
    private static void promise29_noSuchPlace() {
        int[] places = {-1, 5, 24, LEAST, MOST};
        for (int place : places) {
            refused("mark(0, " + place + ", 1)", x -> x.mark(0, place, 1), INDEX);
            refused("mark(1, " + place + ", 1)", x -> x.mark(1, place, 1), INDEX);
        }
        refused("mark(2, 0, 1)", x -> x.mark(2, 0, 1), INDEX);
        ThirstLead x = new ThirstLead();
        x.sheet(0, SHORTS, 5);
        Due.is("the first", x.mark(0, 0, 1), 1);
        Due.is("the last", x.mark(0, 4, 1), 1);
    }

    @Says("of shorts its lowest 16 bits")
    private static void promise29_shortsGoRound() {
        int[][] rows = {
            {32767, 32767}, {32768, -32768}, {-32768, -32768}, {-32769, 32767}, {65535, -1}, {65536, 0}, {-65536, 0}, {100000, -31072},
            {LEAST, 0}, {MOST, -1}, {NONE + 1, 13820}, {NONE - 1, 13818}};
        ThirstLead x = new ThirstLead();
        x.sheet(0, SHORTS, 1);
        for (int[] row : rows) {
            Due.is("mark(0, 0, " + row[0] + ")", x.mark(0, 0, row[0]), 1);
            Due.is(row[0] + " in shorts", at(x, 0, 0), row[1]);
        }
    }

    @Says("KIND: NONE in a row of shorts")
    private static void promise29_noneInShorts() {
        refused("mark(0, 0, NONE)", x -> x.mark(0, 0, NONE), KIND);
        refused("mark(0, 4, NONE)", x -> x.mark(0, 4, NONE), KIND);
    }

    @Says({"of floats v, -99999 .. 99999; NONE: NO NUMBER", "BAD: v of floats.", "A place of floats may be NO NUMBER."})
    private static void promise29_floatsFromTheLeastToTheMost() {
        int[] bad = {100000, -100000, LEAST, MOST, NONE + 1, NONE - 1, BAD, KIND};
        for (int v : bad) {
            refused("mark(1, 0, " + v + ")", x -> x.mark(1, 0, v), BAD);
        }
        int[] good = {99999, -99999, 0, 32768, -32769};
        ThirstLead x = new ThirstLead();
        x.sheet(0, FLOATS, 1);
        for (int v : good) {
            Due.is("mark(0, 0, " + v + ")", x.mark(0, 0, v), 1);
            Due.is(v + " in floats", at(x, 0, 0), v);
        }
        Due.is("NO NUMBER", x.mark(0, 0, NONE), 1);
        Due.is("it is none", at(x, 0, 0), KIND);
        Due.is("a number again", x.mark(0, 0, -1), 1);
        Due.is("it is one", at(x, 0, 0), -1);
    }

    // ---- 30, pour

    @Says({"how many are otherwise then. BAD; NOTHING.", "NOTHING: a SHEET is MISSING, a SLOT holds nothing"})
    private static void promise30_badSheetsAndMissingOnes() {
        int[] sheets = {-1, 4, LEAST, MOST};
        for (int sheet : sheets) {
            refused("pour(" + sheet + ")", x -> x.pour(sheet), BAD);
        }
        refused("pour(3)", x -> x.pour(3), NOTHING);
    }

    @Says("each held within 0 .. 99")
    private static void promise30_heldWithin0And99() {
        int[][] rows = {{-1, 0}, {0, 0}, {1, 1}, {98, 98}, {99, 99}, {100, 99}, {99999, 99}, {-99999, 0}};
        ThirstLead x = new ThirstLead();
        x.sheet(0, FLOATS, 1);
        for (int[] row : rows) {
            x.water(0, 50);
            x.mark(0, 0, row[0]);
            Due.is("pour of " + row[0], x.pour(0), 1);
            Due.is("WATER by " + row[0], x.water(0, 0), row[1]);
        }
        x.sheet(0, SHORTS, 1);
        x.mark(0, 0, 32768);
        x.water(0, 50);
        x.pour(0);
        Due.is("WATER by a short below 0", x.water(0, 0), 0);
    }

    @Says("NO NUMBER, and beyond the SHEET: it stays")
    private static void promise30_whatStays() {
        ThirstLead x = new ThirstLead();
        for (int cell = 0; cell < 24; cell++) {
            x.water(cell, 10 + cell);
        }
        x.sheet(0, FLOATS, 3);
        x.mark(0, 1, NONE);
        Due.is("pour(0)", x.pour(0), 2);
        for (int cell = 0; cell < 24; cell++) {
            Due.is("WATER of " + cell, x.water(cell, 10 + cell), cell == 0 || cell == 2 ? 0 : 10 + cell);
        }
        x.sheet(1, SHORTS, 0);
        Due.is("a SHEET without places", x.pour(1), 0);
        x.sheet(1, FLOATS, 1);
        x.mark(1, 0, NONE);
        Due.is("a SHEET without numbers", x.pour(1), 0);
        Due.is("all are WELLS", x.band(6), 16777215);
    }

    @Says("how many are otherwise then")
    private static void promise30_howManyAreOtherwise() {
        ThirstLead x = new ThirstLead();
        x.sheet(0, FLOATS, 24);
        Due.is("none", x.pour(0), 0);
        for (int i = 0; i < 24; i++) {
            x.mark(0, i, 1 + i);
        }
        Due.is("all", x.pour(0), 24);
        Due.is("none again", x.pour(0), 0);
        Due.is("the last cell", x.water(23, 99), 24);
        x.mark(0, 23, 150);
        Due.is("99 is held, and was there", x.pour(0), 0);
        x.mark(0, 0, -5);
        x.water(0, 0);
        Due.is("0 is held, and was there", x.pour(0), 0);
    }

    // ---- 31, reads

    @Says("BAD; NOTHING; NONE: there is none.")
    private static void promise31_badSheetsAndMissingOnes() {
        int[] sheets = {-1, 4, LEAST, MOST};
        for (int sheet : sheets) {
            refused("reads(" + sheet + ")", x -> x.reads(sheet), BAD);
        }
        refused("reads(3)", x -> x.reads(3), NOTHING);
    }

    @Says("The first place (of numbers alone) at which a SHEET is not THIRST of that WALKER")
    private static void promise31_theFirstThatDiffers() {
        ThirstLead x = Bands.rich(10);
        x.sheet(0, FLOATS, 10);
        for (int i = 0; i < 10; i++) {
            x.mark(0, i, x.told(i, 1));
        }
        Due.is("none differs, the dead too", x.reads(0), NONE);
        x.mark(0, 9, x.told(9, 1) + 1);
        Due.is("the last", x.reads(0), 9);
        x.mark(0, 4, x.told(4, 1) - 1);
        Due.is("the one ahead of it", x.reads(0), 4);
        x.mark(0, 0, -1);
        Due.is("the first", x.reads(0), 0);
        x.mark(0, 0, NONE);
        Due.is("NO NUMBER is passed by", x.reads(0), 4);
        Twins.changesNothing("reads(0)", () -> Bands.rich(4), y -> y.reads(0), 0);
    }

    @Says("(of places that are no WALKER all numbers are not)")
    private static void promise31_placesThatAreNoWalker() {
        ThirstLead x = new ThirstLead();
        x.sheet(0, SHORTS, 1);
        Due.is("no WALKERS", x.reads(0), 0);
        x.walker(0, 0, 0);
        Due.is("one WALKER", x.reads(0), NONE);
        x.sheet(0, FLOATS, 24);
        Due.is("the second is no WALKER", x.reads(0), 1);
        for (int i = 1; i < 23; i++) {
            x.mark(0, i, NONE);
        }
        Due.is("the last is no WALKER", x.reads(0), 23);
        x.mark(0, 23, NONE);
        Due.is("no numbers beyond", x.reads(0), NONE);
    }

    @Says("NONE: there is none.")
    private static void promise31_aSheetThatIsShort() {
        ThirstLead x = Bands.rich(10);
        x.set(0, 1, 5);
        x.set(1, 1, 6);
        x.sheet(0, SHORTS, 0);
        Due.is("no places", x.reads(0), NONE);
        x.sheet(0, SHORTS, 1);
        x.mark(0, 0, 5);
        Due.is("one place", x.reads(0), NONE);
    }

    // ---- 32, copy

    @Says({"BAD; NOTHING; KIND: they are not of one sort; INDEX.", "of several the one that stands first with it"})
    private static void promise32_whichRefusalComesFirst() {
        int[] bad = {-1, 4, LEAST, MOST};
        for (int b : bad) {
            refused("copy(" + b + ", 0, 3, 0, -1)", x -> x.copy(b, 0, 3, 0, -1), BAD);
            refused("copy(3, 0, " + b + ", 0, -1)", x -> x.copy(3, 0, b, 0, -1), BAD);
        }
        refused("copy(3, 9, 0, 9, 9)", x -> x.copy(3, 9, 0, 9, 9), NOTHING);
        refused("copy(0, 9, 3, 9, 9)", x -> x.copy(0, 9, 3, 9, 9), NOTHING);
        refused("copy(3, 0, 3, 0, 0)", x -> x.copy(3, 0, 3, 0, 0), NOTHING);
        refused("copy(0, 9, 1, 9, 9)", x -> x.copy(0, 9, 1, 9, 9), KIND);
        refused("copy(1, 0, 0, 0, -1)", x -> x.copy(1, 0, 0, 0, -1), KIND);
        refused("copy(1, 0, 2, 0, 0)", x -> x.copy(1, 0, 2, 0, 0), KIND);
    }

    @Says({"KIND: they are not of one sort; INDEX.", "INDEX: there is no such place"})
    private static void promise32_noSuchPlaces() {
        int[][] rows = {
            // place, at, many, of SHEET 0 with its 5 places
            {-1, 0, 1}, {0, -1, 1}, {5, 0, 1}, {0, 5, 1}, {4, 0, 2}, {0, 4, 2}, {1, 0, 5}, {0, 1, 5}, {0, 0, 6}, {0, 0, 24}, {0, 0, 25},
            {0, 0, -1}, {5, 5, -1}, {0, 0, LEAST}, {0, 0, MOST}, {1, 1, MOST}, {MOST, 0, 1}, {0, MOST, 1}, {MOST, MOST, MOST}, {LEAST, 0, 1},
            {0, LEAST, 1}, {6, 0, 0}, {0, 6, 0}, {-1, 0, 0}, {0, -1, 0}};
        for (int[] r : rows) {
            String name = "copy(0, " + r[0] + ", 0, " + r[1] + ", " + r[2] + ")";
            refused(name, x -> x.copy(0, r[0], 0, r[1], r[2]), INDEX);
        }
        refused("copy(0, 0, 2, 0, 1)", x -> x.copy(0, 0, 2, 0, 1), INDEX);
        refused("copy(2, 0, 0, 0, 1)", x -> x.copy(2, 0, 0, 0, 1), INDEX);
    }

    @Says("So many places of a SHEET come to another one (or the same), as they were: many.")
    private static void promise32_noPlacesAndAllPlaces() {
        refused("copy(0, 0, 0, 0, 0)", x -> x.copy(0, 0, 0, 0, 0), 0);
        refused("copy(0, 5, 0, 5, 0)", x -> x.copy(0, 5, 0, 5, 0), 0);
        refused("copy(2, 0, 2, 0, 0)", x -> x.copy(2, 0, 2, 0, 0), 0);
        refused("copy(0, 5, 2, 0, 0)", x -> x.copy(0, 5, 2, 0, 0), 0);
        refused("copy(1, 0, 1, 0, 5)", x -> x.copy(1, 0, 1, 0, 5), 5);
        ThirstLead x = new ThirstLead();
        x.sheet(0, FLOATS, 24);
        x.sheet(1, FLOATS, 24);
        for (int i = 0; i < 24; i++) {
            x.mark(0, i, i == 7 ? NONE : 1000 + i);
        }
        Due.is("all 24", x.copy(0, 0, 1, 0, 24), 24);
        x.lay(0, 2, 1);
        for (int i = 0; i < 24; i++) {
            Due.is("place " + i, x.item(0, i), i == 7 ? KIND : 1000 + i);
        }
        Due.is("the last place alone", x.copy(0, 23, 1, 0, 1), 1);
        Due.is("it is the first there", at(x, 1, 0), 1023);
    }

    @Says("(or the same), as they were: many")
    private static void promise32_withinOneSheet() {
        int[][] rows = {{0, 1, 4}, {1, 0, 4}, {0, 4, 1}, {4, 0, 1}, {0, 2, 3}, {2, 0, 3}, {1, 2, 2}};
        for (int[] r : rows) {
            ThirstLead x = new ThirstLead();
            x.sheet(0, SHORTS, 5);
            int[] want = {10, 11, 12, 13, 14};
            for (int i = 0; i < 5; i++) {
                x.mark(0, i, 10 + i);
            }
            for (int i = 0; i < r[2]; i++) {
                want[r[1] + i] = 10 + r[0] + i;
            }
            Due.is("copy", x.copy(0, r[0], 0, r[1], r[2]), r[2]);
            for (int i = 0; i < 5; i++) {
                Due.is("from " + r[0] + " to " + r[1] + ", place " + i, at(x, 0, i), want[i]);
            }
        }
    }

    // ---- 33, lay

    @Says({"BAD: slot, thing, k; NOTHING: that SHEET is MISSING.", "of several the one that stands first with it"})
    private static void promise33_badSlotsThingsAndNumbers() {
        int[] slots = {-1, 5, LEAST, MOST};
        for (int slot : slots) {
            refused("lay(" + slot + ", 0, 0)", x -> x.lay(slot, 0, 0), BAD);
            refused("lay(" + slot + ", 2, 3)", x -> x.lay(slot, 2, 3), BAD);
        }
        int[] things = {-1, 4, LEAST, MOST};
        for (int thing : things) {
            refused("lay(0, " + thing + ", 0)", x -> x.lay(0, thing, 0), BAD);
        }
        int[] numbers = {-1, 4, LEAST, MOST};
        for (int k : numbers) {
            refused("lay(0, 1, " + k + ")", x -> x.lay(0, 1, k), BAD);
            refused("lay(0, 2, " + k + ")", x -> x.lay(0, 2, k), BAD);
        }
        Due.is("no WALKERS", new ThirstLead().lay(0, 1, 0), BAD);
    }

    @Says("NOTHING: that SHEET is MISSING.")
    private static void promise33_aSheetThatIsMissing() {
        for (int slot = 0; slot < 5; slot++) {
            int s = slot;
            refused("lay(" + s + ", 2, 3)", x -> x.lay(s, 2, 3), NOTHING);
        }
        ThirstLead x = new ThirstLead();
        x.sheet(3, SHORTS, 0);
        Due.is("a SHEET without places is not MISSING", x.lay(0, 2, 3), 0);
        Due.is("no place", x.item(0, 0), INDEX);
    }

    @Says("thing 0 nothing, 1 WALKER k, 2 SHEET k, 3 the number k: what it held (0 .. 3)")
    private static void promise33_anyNumberAndAnyKForNothing() {
        int[] all = {0, -1, 99, LEAST, MOST, NONE, BAD};
        ThirstLead x = new ThirstLead();
        for (int k : all) {
            Due.is("a number", x.lay(4, 3, k), 0);
            Due.is("its rest", x.rest(4, 1000003), k % 1000003);
            Due.is("nothing", x.lay(4, 0, k), 3);
            Due.is("it holds nothing", x.rest(4, 1), NOTHING);
        }
    }

    @Says("what it held (0 .. 3)")
    private static void promise33_whatItHeld() {
        ThirstLead x = new ThirstLead();
        x.walker(1, 6, 24);
        x.sheet(0, SHORTS, 1);
        int[] k = {0, 0, 0, 7};
        for (int was = 0; was < 4; was++) {
            for (int thing = 0; thing < 4; thing++) {
                x.lay(2, 0, 0);
                x.lay(2, was, k[was]);
                Due.is("lay(2, " + thing + ", " + k[thing] + ")", x.lay(2, thing, k[thing]), was);
                Due.is("ask", x.ask(2, 0), thing == 0 ? NOTHING : thing == 1 ? 14 : KIND);
                Due.is("item", x.item(2, 0), thing == 0 ? NOTHING : thing == 2 ? 0 : KIND);
                Due.is("rest", x.rest(2, 5), thing == 0 ? NOTHING : thing == 3 ? 2 : KIND);
            }
        }
    }

    @Says("a WALKER (as it is then, for good), a SHEET (a row of its own, as it was then)")
    private static void promise33_asItWasThen() {
        ThirstLead x = new ThirstLead();
        x.walker(1, 6, 24);
        x.keep();
        x.sheet(0, FLOATS, 3);
        x.mark(0, 1, 77);
        x.lay(0, 1, 0);
        x.lay(1, 2, 0);
        x.set(0, 2, 30);
        x.turns(0, 5);
        x.mark(0, 1, 78);
        x.sheet(0, SHORTS, 1);
        Due.is("the WALKER", x.ask(0, 1), 14);
        Due.is("the SHEET", x.item(1, 1), 77);
        Due.is("its last place", x.item(1, 2), 0);
        x.sheet(0, -1, 0);
        x.back();
        Due.is("the WALKER behind back()", x.ask(0, 1), 14);
        Due.is("the SHEET that is MISSING", x.item(1, 1), 77);
        x = new ThirstLead();
        x.keep();
        x.walker(2, 9, 24);
        x.lay(0, 1, 0);
        x.back();
        Due.is("a WALKER that is no more", x.ask(0, 2), 90);
    }

    // ---- 34, ask

    @Says({"WORTH of the WALKER in a SLOT, taken for one of a KIND (0 .. 5). BAD; NOTHING; KIND: it is no WALKER", "of several the one that stands first with it"})
    private static void promise34_whichRefusalComesFirst() {
        int[] slots = {-1, 5, LEAST, MOST};
        for (int slot : slots) {
            refused("ask(" + slot + ", 0)", x -> x.ask(slot, 0), BAD);
        }
        int[] kinds = {-1, 6, LEAST, MOST};
        for (int kind : kinds) {
            for (int slot = 0; slot < 5; slot++) {
                int s = slot;
                refused("ask(" + s + ", " + kind + ")", x -> x.ask(s, kind), BAD);
            }
        }
        for (int kind = 0; kind < 6; kind++) {
            int k = kind;
            refused("ask(4, " + k + ")", x -> x.ask(4, k), NOTHING);
            refused("ask(1, " + k + ")", x -> x.ask(1, k), KIND);
            refused("ask(2, " + k + ")", x -> x.ask(2, k), KIND);
            refused("ask(3, " + k + ")", x -> x.ask(3, k), KIND);
        }
        refused("ask(0, 1)", x -> x.ask(0, 1), KIND);
    }

    @Says("or not of that KIND, nor of one under it.")
    private static void promise34_everyKindTakenForEveryOther() {
        String[] of = {"100000", "110000", "101000", "110100", "101010", "100001"};
        int[][] worth = {{0, 8, 99, 16, 96, 4}, {30, 38, 69, 76, 66, 4}};
        for (int full = 0; full < 2; full++) {
            ThirstLead x = Bands.oneOfEach(30 * full, 24);
            for (int kind = 0; kind < 6; kind++) {
                x.lay(0, 1, kind);
                for (int other = 0; other < 6; other++) {
                    int want = of[kind].charAt(other) == '1' ? worth[full][kind] : KIND;
                    Due.is("ask, KIND " + kind + " for " + other, x.ask(0, other), want);
                }
            }
        }
    }

    // ---- 35, item

    @Says({"A place of the SHEET in a SLOT. BAD: slot; NOTHING; KIND: it is no SHEET; INDEX; KIND: NO NUMBER.", "of several the one that stands first with it"})
    private static void promise35_whichRefusalComesFirst() {
        int[] slots = {-1, 5, LEAST, MOST};
        for (int slot : slots) {
            refused("item(" + slot + ", 99)", x -> x.item(slot, 99), BAD);
        }
        refused("item(4, 99)", x -> x.item(4, 99), NOTHING);
        refused("item(4, 0)", x -> x.item(4, 0), NOTHING);
        refused("item(0, 99)", x -> x.item(0, 99), KIND);
        refused("item(2, 99)", x -> x.item(2, 99), KIND);
        refused("item(2, 0)", x -> x.item(2, 0), KIND);
    }

    @Says("INDEX: there is no such place")
    private static void promise35_noSuchPlace() {
        int[] places = {-1, 5, 24, LEAST, MOST};
        for (int place : places) {
            refused("item(1, " + place + ")", x -> x.item(1, place), INDEX);
            refused("item(3, " + place + ")", x -> x.item(3, place), INDEX);
        }
        ThirstLead x = Bands.rich(4);
        Due.is("the first", x.item(3, 0), -9);
        Due.is("the last", x.item(3, 4), 19);
        x.lay(0, 2, 2);
        Due.is("no places", x.item(0, 0), INDEX);
        x.sheet(0, SHORTS, 24);
        x.mark(0, 23, 6);
        x.lay(0, 2, 0);
        Due.is("place 23", x.item(0, 23), 6);
        Due.is("place 24", x.item(0, 24), INDEX);
    }

    @Says({"INDEX; KIND: NO NUMBER.", "KIND: it is none (of a KIND, a number, or another thing)."})
    private static void promise35_noNumber() {
        refused("item(1, 2)", x -> x.item(1, 2), KIND);
        refused("item(1, 1)", x -> x.item(1, 1), 1000);
    }

    // ---- 36, rest

    @Says({"The rest of the number in a SLOT by n. BAD: slot; NOTHING; KIND: it is no number; NO: n is 0.", "of several the one that stands first with it"})
    private static void promise36_whichRefusalComesFirst() {
        int[] slots = {-1, 5, LEAST, MOST};
        for (int slot : slots) {
            refused("rest(" + slot + ", 0)", x -> x.rest(slot, 0), BAD);
            refused("rest(" + slot + ", 1)", x -> x.rest(slot, 1), BAD);
        }
        for (int n = 0; n < 2; n++) {
            int by = n;
            refused("rest(4, " + by + ")", x -> x.rest(4, by), NOTHING);
            refused("rest(0, " + by + ")", x -> x.rest(0, by), KIND);
            refused("rest(1, " + by + ")", x -> x.rest(1, by), KIND);
            refused("rest(3, " + by + ")", x -> x.rest(3, by), KIND);
        }
        refused("rest(2, 0)", x -> x.rest(2, 0), NO);
    }

    @Says({"The rest of the number in a SLOT by n.", "All numbers are whole; / cuts towards 0."})
    private static void promise36_restsOfTheLeastAndTheMost() {
        int[][] rows = {
            {0, 7, 0}, {7, 7, 0}, {8, 7, 1}, {-8, 7, -1}, {8, -7, 1}, {-8, -7, -1}, {LEAST, -1, 0}, {LEAST, 1, 0}, {MOST, LEAST, MOST},
            {LEAST, LEAST, 0}, {LEAST, MOST, -1}, {-1, LEAST, -1}, {3, 5, 3}};
        ThirstLead x = new ThirstLead();
        for (int[] row : rows) {
            x.lay(0, 3, row[0]);
            Due.is("the rest of " + row[0] + " by " + row[1], x.rest(0, row[1]), row[2]);
        }
        x.lay(0, 3, LEAST);
        Due.is("the least by 0", x.rest(0, 0), NO);
    }
}
