/** The edges that the document names for promises 1 to 10, a sentence a test. */
public final class EdgesOfWalkersTest {
    private static final int BAD = ThirstLead.BAD, FULL = ThirstLead.FULL, NONE = ThirstLead.NONE;
    private static final int KIND = ThirstLead.KIND, NOTHING = ThirstLead.NOTHING, NO = ThirstLead.NO;
    private static final int LEAST = Integer.MIN_VALUE, MOST = Integer.MAX_VALUE;
    private static final int THIRSTS = 6, SLAKES = 7, GOES = 8, WORTH = 9;

    public static void main(String[] args) throws Exception {
        Edges.run(EdgesOfWalkersTest.class);
    }

    // ---- 1, a new object

    @Says("As told; no WALKERS.")
    private static void promise01_noWalkers() {
        ThirstLead x = new ThirstLead();
        Due.is("count(0)", x.count(0), 0);
        Due.is("told(0, 0)", x.told(0, 0), BAD);
        Due.is("band(1)", x.band(1), NONE);
        Due.is("band(4)", x.band(4), 0);
        Due.is("band(5)", x.band(5), 0);
    }

    @Says("each with WATER 0 .. 99 (cups; 0 at first; a WELL, if it is above 0)")
    private static void promise01_noWaterInAnyCell() {
        ThirstLead x = new ThirstLead();
        Due.is("band(6)", x.band(6), 0);
        for (int cell = 0; cell < 24; cell++) {
            Due.is("water(" + cell + ", 0)", x.water(cell, 0), 0);
        }
    }

    @Says("THE BAND is in one cell (0 at first), all together")
    private static void promise01_theBandIsInCell0() {
        Due.is("band(0)", new ThirstLead().band(0), 0);
    }

    @Says("HEAT 0 .. 9 (3 at first; of the latest hour), SIP 1 .. 9 (2), MIRAGE 0 .. 100 (0), DEADLY 20 .. 99 (60).")
    private static void promise01_rulesAtFirst() {
        ThirstLead x = new ThirstLead();
        Due.is("HEAT", x.count(2), 3);
        Due.is("SIP", x.count(3), 2);
        Due.is("MIRAGE", x.count(4), 0);
        Due.is("DEADLY", x.count(5), 60);
    }

    @Says("DEATHS, LOST (hours) are 0 at first; THE HOUR is 0 at first")
    private static void promise01_deathsLostAndTheHourAre0() {
        ThirstLead x = new ThirstLead();
        Due.is("DEATHS", x.band(2), 0);
        Due.is("LOST", x.band(3), 0);
        Due.is("THE HOUR", x.count(1), 0);
    }

    @Says("z is told (1 at first).")
    private static void promise01_zIs1() {
        Due.is("count(9)", new ThirstLead().count(9), 1);
    }

    @Says("with 0 to 24 places, or MISSING (at first)")
    private static void promise01_allSheetsAreMissing() {
        ThirstLead x = new ThirstLead();
        for (int sheet = 0; sheet < 4; sheet++) {
            Due.is("mark(" + sheet + ", 0, 0)", x.mark(sheet, 0, 0), NOTHING);
        }
    }

    @Says("SLOTS 0 .. 4 each hold nothing (at first)")
    private static void promise01_allSlotsHoldNothing() {
        ThirstLead x = new ThirstLead();
        for (int slot = 0; slot < 5; slot++) {
            Due.is("rest(" + slot + ", 1)", x.rest(slot, 1), NOTHING);
            Due.is("lay(" + slot + ", 0, 0)", x.lay(slot, 0, 0), 0);
        }
    }

    @Says({"TEXTS, 14 at most, numbered from 0, from THE TAPE", "NO: there is no IMAGE.", "As told; no WALKERS."})
    private static void promise01_noTextsNoTapeNoRowsNoImage() {
        ThirstLead x = new ThirstLead();
        Due.is("TEXTS", x.count(6), 0);
        Due.is("numbers that wait", x.count(7), 0);
        Due.is("bytes of THE TAPE", x.count(8), 0);
        Due.is("back()", x.back(), NO);
        Due.is("check(1)", x.check(1), NO);
    }

    @Says("As told; no WALKERS.")
    private static void promise01_anotherObjectIsNotThere() {
        ThirstLead used = Bands.rich(10);
        used.hours(5);
        promise01_noWalkers();
        promise01_noWaterInAnyCell();
        promise01_theBandIsInCell0();
        promise01_rulesAtFirst();
        promise01_deathsLostAndTheHourAre0();
        promise01_zIs1();
        promise01_allSheetsAreMissing();
        promise01_allSlotsHoldNothing();
        promise01_noTextsNoTapeNoRowsNoImage();
    }

    @Says("An object is used for at most 512 calls after it has been made")
    private static void promise01_all512CallsAnswer() {
        ThirstLead x = new ThirstLead();
        for (int i = 1; i < 512; i++) {
            x.tell(i);
        }
        Due.is("the last call", x.count(7), 60);
    }

    // ---- 2, walker

    private static void badWalker(int kind, int skin, int knows) {
        String name = "walker(" + kind + ", " + skin + ", " + knows + ")";
        Twins.changesNothing(name, ThirstLead::new, x -> x.walker(kind, skin, knows), BAD);
        Twins.changesNothing(name, () -> Bands.rich(4), x -> x.walker(kind, skin, knows), BAD);
    }

    private static void goodWalker(int kind, int skin, int knows) {
        ThirstLead x = new ThirstLead();
        Due.is("walker(" + kind + ", " + skin + ", " + knows + ")", x.walker(kind, skin, knows), 0);
        Due.is("KIND", x.told(0, 0), kind);
        Due.is("SKIN", x.told(0, 2), skin);
        Due.is("KNOWS", x.told(0, 3), knows);
    }

    @Says("of KINDS: 0 WALKER; 1 FAT, 2 THIN, 5 CAMEL, under WALKER; 3 GUIDE, under FAT; 4 BOY, under THIN")
    private static void promise02_aKindIs0To5() {
        for (int kind = 0; kind < 6; kind++) {
            goodWalker(kind, 1, 1);
        }
        badWalker(-1, 1, 1);
        badWalker(6, 1, 1);
        badWalker(LEAST, 1, 1);
        badWalker(MOST, 1, 1);
    }

    @Says("SKIN 0 .. 30 (cups)")
    private static void promise02_aSkinIs0To30() {
        goodWalker(0, 0, 1);
        goodWalker(0, 30, 1);
        badWalker(0, -1, 1);
        badWalker(0, 31, 1);
        badWalker(0, LEAST, 1);
        badWalker(0, MOST, 1);
    }

    @Says("KNOWS a cell (to which it would go) or 24 (none; at first)")
    private static void promise02_itKnowsACellOr24() {
        goodWalker(0, 1, 0);
        goodWalker(0, 1, 23);
        goodWalker(0, 1, 24);
        badWalker(0, 1, -1);
        badWalker(0, 1, 25);
        badWalker(0, 1, LEAST);
        badWalker(0, 1, MOST);
    }

    @Says({"WALKERS, 10 at most, numbered from 0", "One more WALKER: its number. BAD; FULL."})
    private static void promise02_theEleventhIsFull() {
        ThirstLead x = new ThirstLead();
        for (int i = 0; i < 10; i++) {
            Due.is("walker " + i, x.walker(0, 0, 0), i);
        }
        Due.is("the eleventh", x.walker(0, 0, 0), FULL);
        Due.is("count(0)", x.count(0), 10);
        Twins.changesNothing("walker(1, 2, 3)", () -> Bands.rich(10), y -> y.walker(1, 2, 3), FULL);
    }

    @Says({"One more WALKER: its number. BAD; FULL.", "of several the one that stands first with it"})
    private static void promise02_badComesAheadOfFull() {
        Twins.changesNothing("walker(6, 0, 0)", () -> Bands.rich(10), x -> x.walker(6, 0, 0), BAD);
        Twins.changesNothing("walker(0, 31, 0)", () -> Bands.rich(10), x -> x.walker(0, 31, 0), BAD);
        Twins.changesNothing("walker(0, 0, 25)", () -> Bands.rich(10), x -> x.walker(0, 0, 25), BAD);
    }

    @Says({"THIRST 0 .. 99 (0 at first)", "LED (how often; 0 at first), it LIVES (at first) or is DEAD"})
    private static void promise02_whatANewOneIs() {
        ThirstLead x = Bands.steady(0);
        x.keep();
        x.walker(0, 5, 3);
        x.set(0, 1, 99);
        x.hours(1);
        Due.is("the first one is DEAD", x.told(0, 5), 0);
        x.back();
        // The number is given once more, to one that has nothing of the first.
        Due.is("walker(2, 4, 24)", x.walker(2, 4, 24), 0);
        int[] told = {2, 0, 4, 24, 0, 1};
        for (int what = 0; what < told.length; what++) {
            Due.is("told(0, " + what + ")", x.told(0, what), told[what]);
        }
    }

    // ---- 3, told

    @Says("5 whether it LIVES (1, 0), 6 THIRSTS, 7 SLAKES, 8 GOES, 9 WORTH. BAD.")
    private static void promise03_badWalkersAndBadWhats() {
        int[][] bad = {{-1, 0}, {4, 0}, {10, 0}, {LEAST, 0}, {MOST, 0}, {0, -1}, {0, 10}, {0, LEAST}, {0, MOST}};
        for (int[] b : bad) {
            Twins.changesNothing("told(" + b[0] + ", " + b[1] + ")", () -> Bands.rich(4), x -> x.told(b[0], b[1]), BAD);
        }
        ThirstLead x = Bands.rich(10);
        Due.is("told(9, 0)", x.told(9, 0), 3);
        Due.is("told(10, 0)", x.told(10, 0), BAD);
    }

    @Says("what 0 KIND, 1 THIRST, 2 SKIN, 3 KNOWS (24: none), 4 LED, 5 whether it LIVES (1, 0)")
    private static void promise03_theLeastAndTheMostOfEach() {
        int[][] rows = {{0, 0, 0, 0}, {5, 99, 30, 24}, {3, 98, 29, 23}};
        for (int[] row : rows) {
            ThirstLead x = new ThirstLead();
            x.walker(row[0], row[2], row[3]);
            x.set(0, 1, row[1]);
            int[] want = {row[0], row[1], row[2], row[3], 0, 1};
            for (int what = 0; what < want.length; what++) {
                Due.is("told(0, " + what + ")", x.told(0, what), want[what]);
            }
        }
    }

    @Says("5 whether it LIVES (1, 0)")
    private static void promise03_itLivesOrNot() {
        ThirstLead x = Bands.one(0, 60, 0);
        Due.is("LIVES", x.told(0, 5), 1);
        x.hours(1);
        Due.is("DEAD", x.told(0, 5), 0);
        Due.is("THIRST of the dead is told too", x.told(0, 1), 60);
    }

    private static void thirsts(ThirstLead x, String when, int... want) {
        for (int kind = 0; kind < 6; kind++) {
            Due.is("THIRSTS " + when + ", KIND " + kind, x.told(kind, THIRSTS), want[kind]);
        }
    }

    @Says({"(without a TEXT: HEAT and 1)", "FAT: as WALKER, and 2. GUIDE: as FAT, less 1."})
    private static void promise03_thirstsByTheLeastAndTheMostHeat() {
        ThirstLead x = Bands.oneOfEach(0, 24);
        x.rule(0, 0);
        thirsts(x, "with HEAT 0", 1, 3, 0, 2, 0, 1);
        x.rule(0, 9);
        thirsts(x, "with HEAT 9", 10, 12, 5, 11, 5, 1);
    }

    @Says("WALKER: what thirst gives, held within 0 .. 40")
    private static void promise03_whatThirstGivesIsHeldWithin0And40() {
        String[] texts = {"0-1", "0", "1", "39", "40", "41", "9999", "0-9999*9999", "9999*9999*9"};
        int[] plain = {0, 0, 1, 39, 40, 40, 40, 0, 40};
        for (int i = 0; i < texts.length; i++) {
            ThirstLead x = Bands.oneOfEach(0, 24);
            Due.textOf(x, "thirst " + texts[i]);
            int p = plain[i];
            // What FAT and GUIDE have more is not held any more.
            thirsts(x, "by " + texts[i], p, p + 2, p / 2, p + 1, p / 2, 1);
        }
    }

    @Says("THIN: half (cut) of as WALKER.")
    private static void promise03_halfIsCut() {
        int[][] rows = {{0, 0}, {1, 0}, {2, 1}, {3, 1}, {39, 19}, {40, 20}};
        for (int[] row : rows) {
            ThirstLead x = Bands.steady(row[0]);
            x.walker(2, 0, 0);
            Due.is("THIN, half of " + row[0], x.told(0, THIRSTS), row[1]);
        }
    }

    @Says("BOY: as THIN, and 1, if THE HOUR is odd.")
    private static void promise03_aBoyByOddAndEvenHours() {
        ThirstLead x = Bands.steady(5);
        x.walker(4, 0, 24);
        x.walker(2, 0, 24);
        for (int hour = 0; hour < 4; hour++) {
            Due.is("BOY, HOUR " + hour, x.told(0, THIRSTS), 2 + hour % 2);
            Due.is("THIN, HOUR " + hour, x.told(1, THIRSTS), 2);
            x.hours(1);
        }
        x = Bands.atHour(9999);
        x.walker(4, 0, 24);
        x.rule(0, 5);
        Due.is("BOY, HOUR 9999", x.told(0, THIRSTS), 4);
    }

    @Says({"CAMEL: 1. SLAKES (less THIRST by a cup): WALKER: 5. FAT: 4. THIN: 6. BOY: as THIN, and 1. CAMEL: 9. (GUIDE as FAT.)",
        "(A KIND that is not named does as the one above it.)"})
    private static void promise03_slakesByKinds() {
        ThirstLead x = Bands.oneOfEach(0, 24);
        int[] want = {5, 4, 6, 4, 7, 9};
        for (int kind = 0; kind < 6; kind++) {
            Due.is("SLAKES, KIND " + kind, x.told(kind, SLAKES), want[kind]);
        }
    }

    /** As told(.., 8) of all KINDS, if that of a WALKER is known. */
    private static void ways(int cell, int knows, int way) {
        ThirstLead x = Bands.oneOfEach(0, knows);
        x.rule(4, cell);
        int[] want = {way, way, way, way, -way, 1};
        for (int kind = 0; kind < 6; kind++) {
            Due.is("GOES from " + cell + " to " + knows + ", KIND " + kind, x.told(kind, GOES), want[kind]);
        }
    }

    @Says("GOES (from the cell c of THE BAND; 1, -1 or 0): WALKER: with KNOWS 24: 1.")
    private static void promise03_whoKnowsNoneGoes1() {
        for (int cell = 0; cell < 24; cell++) {
            ways(cell, 24, 1);
        }
    }

    @Says("KNOWS c: 0.")
    private static void promise03_whoIsThereGoes0() {
        for (int cell = 0; cell < 24; cell++) {
            ways(cell, cell, 0);
        }
    }

    @Says({"Else the nearer way round to KNOWS (of like ones 1).", "(FAT, THIN as WALKER.)"})
    private static void promise03_theNearerWayRoundTheRing() {
        for (int cell = 0; cell < 24; cell++) {
            ways(cell, (cell + 1) % 24, 1);
            ways(cell, (cell + 11) % 24, 1);
            ways(cell, (cell + 12) % 24, 1);
            ways(cell, (cell + 13) % 24, -1);
            ways(cell, (cell + 23) % 24, -1);
        }
    }

    @Says("BOY: as THIN the other way round.")
    private static void promise03_aBoyGoesTheOtherWay() {
        ThirstLead x = new ThirstLead();
        x.walker(4, 0, 24);
        Due.is("KNOWS 24", x.told(0, GOES), -1);
        int[][] rows = {{0, 0}, {1, -1}, {12, -1}, {13, 1}, {23, 1}};
        for (int[] row : rows) {
            x.set(0, 3, row[0]);
            Due.is("KNOWS " + row[0], x.told(0, GOES), row[1]);
        }
    }

    @Says("CAMEL: 1 always.")
    private static void promise03_aCamelGoes1Always() {
        ThirstLead x = new ThirstLead();
        x.walker(5, 0, 24);
        for (int knows = 0; knows < 25; knows++) {
            x.set(0, 3, knows);
            Due.is("KNOWS " + knows, x.told(0, GOES), 1);
        }
    }

    private static void guide(int cell, int want, int... ahead) {
        ThirstLead x = new ThirstLead();
        x.walker(3, 0, 24);
        x.rule(4, cell);
        StringBuilder name = new StringBuilder("GUIDE in " + cell + ", WELLS ahead by");
        for (int a : ahead) {
            x.water((cell + a) % 24, 1);
            name.append(' ').append(a);
        }
        Due.is(name.toString(), x.told(0, GOES), want);
    }

    @Says("GUIDE: as FAT, but with KNOWS 24 the nearer way to the nearest WELL")
    private static void promise03_aGuideGoesToTheNearestWell() {
        for (int cell = 0; cell < 24; cell++) {
            guide(cell, 1, 1);
            guide(cell, 1, 11);
            guide(cell, -1, 13);
            guide(cell, -1, 23);
            guide(cell, -1, 3, 22);
            guide(cell, 1, 2, 21);
            guide(cell, -1, 12, 13);
            guide(cell, 1, 11, 12);
        }
    }

    @Says("(of like ones 1; 0 if c is one; 1 if there is none)")
    private static void promise03_aGuideBetweenLikeWellsAtOneAndWithoutAny() {
        for (int cell = 0; cell < 24; cell++) {
            guide(cell, 1, 12);
            guide(cell, 1, 1, 23);
            guide(cell, 1, 11, 13);
            guide(cell, 0, 0);
            guide(cell, 0, 0, 1, 23);
            guide(cell, 1);
        }
    }

    @Says("GUIDE: as FAT, but with KNOWS 24")
    private static void promise03_aGuideThatKnowsACellHeedsNoWell() {
        ThirstLead x = new ThirstLead();
        x.walker(3, 0, 22);
        x.water(0, 9);
        x.water(1, 9);
        Due.is("GUIDE to 22", x.told(0, GOES), -1);
        x.set(0, 3, 23);
        x.rule(4, 23);
        Due.is("GUIDE at 23", x.told(0, GOES), 0);
    }

    @Says("WORTH: WALKER: SKIN. FAT: as WALKER, and 8. GUIDE: twice as FAT. THIN: 99 less SKIN. BOY: as THIN, less 3. CAMEL: 4.")
    private static void promise03_worthOfAnEmptyAndOfAFullSkin() {
        int[][] rows = {{0, 0, 8, 99, 16, 96, 4}, {30, 30, 38, 69, 76, 66, 4}};
        for (int[] row : rows) {
            ThirstLead x = Bands.oneOfEach(row[0], 24);
            for (int kind = 0; kind < 6; kind++) {
                Due.is("WORTH with SKIN " + row[0] + ", KIND " + kind, x.told(kind, WORTH), row[1 + kind]);
            }
        }
    }

    // ---- 4, as

    private static final String[] OF = {"100000", "110000", "101000", "110100", "101010", "100001"};

    @Says("KIND: it is not of that KIND, nor of one under it.")
    private static void promise04_everyKindAsEveryOther() {
        ThirstLead x = Bands.oneOfEach(7, 24);
        for (int kind = 0; kind < 6; kind++) {
            for (int other = 0; other < 6; other++) {
                int want = OF[kind].charAt(other) == '1' ? 7 : KIND;
                Due.is("as, KIND " + kind + " as " + other, x.as(kind, other), want);
            }
        }
        Twins.changesNothing("as(0, 5)", () -> Bands.rich(4), y -> y.as(0, 5), KIND);
    }

    @Says("A WALKER as one of a KIND: SKIN. BAD: walker, kind; KIND")
    private static void promise04_badWalkersAndBadKinds() {
        int[][] bad = {{-1, 0}, {4, 0}, {4, 5}, {LEAST, 0}, {MOST, 0}, {0, -1}, {0, 6}, {0, LEAST}, {0, MOST}};
        for (int[] b : bad) {
            Twins.changesNothing("as(" + b[0] + ", " + b[1] + ")", () -> Bands.rich(4), x -> x.as(b[0], b[1]), BAD);
        }
    }

    // ---- 5, turns

    @Says("A WALKER is of another KIND from now on: what it was. BAD.")
    private static void promise05_badWalkersAndBadKinds() {
        int[][] bad = {{-1, 0}, {4, 0}, {LEAST, 0}, {MOST, 0}, {0, -1}, {0, 6}, {0, LEAST}, {0, MOST}};
        for (int[] b : bad) {
            Twins.changesNothing("turns(" + b[0] + ", " + b[1] + ")", () -> Bands.rich(4), x -> x.turns(b[0], b[1]), BAD);
        }
    }

    @Says("A WALKER is of another KIND from now on: what it was.")
    private static void promise05_fromTheFirstKindToTheLastAndBack() {
        ThirstLead x = Bands.steady(10);
        x.walker(0, 6, 3);
        x.hours(2);
        x.set(0, 1, 11);
        x.set(0, 2, 6);
        Due.is("turns(0, 5)", x.turns(0, 5), 0);
        Due.is("it is a CAMEL", x.told(0, THIRSTS), 1);
        Due.is("turns(0, 5) again", x.turns(0, 5), 5);
        Due.is("turns(0, 0)", x.turns(0, 0), 5);
        int[] told = {0, 11, 6, 3, 2, 1, 10, 5, 1, 6};
        for (int what = 0; what < told.length; what++) {
            Due.is("told(0, " + what + ")", x.told(0, what), told[what]);
        }
        ThirstLead dead = Bands.one(0, 60, 0);
        dead.hours(1);
        Due.is("a dead one turns too", dead.turns(0, 2), 0);
        Due.is("and stays DEAD", dead.told(0, 5), 0);
    }

    // ---- 6, set

    private static void bounds(int what, int least, int most) {
        ThirstLead x = new ThirstLead();
        x.walker(0, 9, 9);
        x.set(0, 1, 9);
        Due.is("set(0, " + what + ", most)", x.set(0, what, most), 9);
        Due.is("set(0, " + what + ", least)", x.set(0, what, least), most);
        Due.is("told", x.told(0, what), least);
        for (int other = 1; other < 4; other++) {
            Due.is("told(0, " + other + ") beside " + what, x.told(0, other), other == what ? least : 9);
        }
        int[] bad = {least - 1, most + 1, LEAST, MOST};
        for (int v : bad) {
            Twins.changesNothing("set(1, " + what + ", " + v + ")", () -> Bands.rich(4), y -> y.set(1, what, v), BAD);
        }
    }

    @Says({"THIRST 0 .. 99 (0 at first)", "THIRST, SKIN, KNOWS (what 1 .. 3) of a WALKER becomes v: what it was. BAD."})
    private static void promise06_thirstIs0To99() {
        bounds(1, 0, 99);
    }

    @Says({"SKIN 0 .. 30 (cups)", "THIRST, SKIN, KNOWS (what 1 .. 3) of a WALKER becomes v: what it was. BAD."})
    private static void promise06_skinIs0To30() {
        bounds(2, 0, 30);
    }

    @Says({"KNOWS a cell (to which it would go) or 24", "THIRST, SKIN, KNOWS (what 1 .. 3) of a WALKER becomes v: what it was. BAD."})
    private static void promise06_knowsIs0To24() {
        bounds(3, 0, 24);
    }

    @Says("THIRST, SKIN, KNOWS (what 1 .. 3) of a WALKER becomes v: what it was. BAD.")
    private static void promise06_badWalkersAndBadWhats() {
        int[][] bad = {{-1, 1}, {4, 1}, {LEAST, 1}, {MOST, 1}, {0, 0}, {0, 4}, {0, -1}, {0, LEAST}, {0, MOST}};
        for (int[] b : bad) {
            Twins.changesNothing("set(" + b[0] + ", " + b[1] + ", 1)", () -> Bands.rich(4), x -> x.set(b[0], b[1], 1), BAD);
        }
    }

    @Says("it LIVES (at first) or is DEAD")
    private static void promise06_theDeadStayDead() {
        ThirstLead x = Bands.one(0, 60, 0);
        x.hours(1);
        Due.is("THIRST of the dead", x.set(0, 1, 0), 60);
        Due.is("SKIN of the dead", x.set(0, 2, 5), 0);
        Due.is("it is DEAD", x.told(0, 5), 0);
    }

    // ---- 7, water

    @Says({"THE DESERT is a ring of cells 0 .. 23", "WATER of a cell becomes v: what it was. BAD."})
    private static void promise07_cellsAre0To23() {
        ThirstLead x = new ThirstLead();
        Due.is("water(0, 5)", x.water(0, 5), 0);
        Due.is("water(23, 6)", x.water(23, 6), 0);
        Due.is("water(0, 5) again", x.water(0, 5), 5);
        Due.is("water(23, 6) again", x.water(23, 6), 6);
        int[] bad = {-1, 24, LEAST, MOST};
        for (int cell : bad) {
            Twins.changesNothing("water(" + cell + ", 1)", () -> Bands.rich(4), y -> y.water(cell, 1), BAD);
        }
    }

    @Says({"each with WATER 0 .. 99", "WATER of a cell becomes v: what it was. BAD."})
    private static void promise07_waterIs0To99() {
        ThirstLead x = new ThirstLead();
        Due.is("water(3, 99)", x.water(3, 99), 0);
        Due.is("water(3, 0)", x.water(3, 0), 99);
        Due.is("water(3, 0) again", x.water(3, 0), 0);
        int[] bad = {-1, 100, LEAST, MOST};
        for (int v : bad) {
            Twins.changesNothing("water(3, " + v + ")", () -> Bands.rich(4), y -> y.water(3, v), BAD);
        }
    }

    // ---- 8, rule

    private static void ruleWithin(int what, int least, int most, int first) {
        ThirstLead x = new ThirstLead();
        Due.is("rule(" + what + ", most)", x.rule(what, most), first);
        Due.is("rule(" + what + ", least)", x.rule(what, least), most);
        int[] told = {x.count(2), x.count(3), x.count(4), x.count(5), x.band(0)};
        int[] want = {3, 2, 0, 60, 0};
        want[what] = least;
        for (int i = 0; i < 5; i++) {
            Due.is("rule " + i + " beside " + what, told[i], want[i]);
        }
        int[] bad = {least - 1, most + 1, LEAST, MOST};
        for (int v : bad) {
            Twins.changesNothing("rule(" + what + ", " + v + ")", () -> Bands.rich(4), y -> y.rule(what, v), BAD);
        }
    }

    @Says({"HEAT 0 .. 9 (3 at first; of the latest hour)", "HEAT, SIP, MIRAGE, DEADLY (what 0 .. 3)"})
    private static void promise08_heatIs0To9() {
        ruleWithin(0, 0, 9, 3);
    }

    @Says({"SIP 1 .. 9 (2)", "HEAT, SIP, MIRAGE, DEADLY (what 0 .. 3)"})
    private static void promise08_sipIs1To9() {
        ruleWithin(1, 1, 9, 2);
    }

    @Says({"MIRAGE 0 .. 100 (0)", "HEAT, SIP, MIRAGE, DEADLY (what 0 .. 3)"})
    private static void promise08_mirageIs0To100() {
        ruleWithin(2, 0, 100, 0);
    }

    @Says({"DEADLY 20 .. 99 (60)", "HEAT, SIP, MIRAGE, DEADLY (what 0 .. 3)"})
    private static void promise08_deadlyIs20To99() {
        ruleWithin(3, 20, 99, 60);
    }

    @Says({"THE DESERT is a ring of cells 0 .. 23", "the cell of THE BAND (4) becomes v: what it was. BAD."})
    private static void promise08_theBandsCellIs0To23() {
        ruleWithin(4, 0, 23, 0);
    }

    @Says("the cell of THE BAND (4) becomes v: what it was. BAD.")
    private static void promise08_badWhats() {
        int[] bad = {-1, 5, LEAST, MOST};
        for (int what : bad) {
            Twins.changesNothing("rule(" + what + ", 20)", () -> Bands.rich(4), x -> x.rule(what, 20), BAD);
            Twins.changesNothing("rule(" + what + ", 1)", () -> Bands.rich(4), x -> x.rule(what, 1), BAD);
        }
    }

    @Says("HEAT 0 .. 9 (3 at first; of the latest hour)")
    private static void promise08_heatIsThatOfTheLatestHour() {
        ThirstLead x = new ThirstLead();
        x.hours(2);
        int z = Bands.next(Bands.next(1));
        Due.is("rule(0, 9)", x.rule(0, 9), Bands.given(z) % 10);
        Due.is("HEAT", x.count(2), 9);
    }

    // ---- 9, deal

    @Says("WALKERS are drawn, n (1 .. 10) of them")
    private static void promise09_badNumbers() {
        int[] bad = {0, 11, -1, LEAST, MOST};
        for (int n : bad) {
            Twins.changesNothing("deal(" + n + ")", () -> Bands.rich(4), x -> x.deal(n), BAD);
            Twins.changesNothing("deal(" + n + "), full", () -> Bands.rich(10), x -> x.deal(n), BAD);
        }
        Due.is("deal(1)", new ThirstLead().deal(1), 1);
        Due.is("deal(10)", new ThirstLead().deal(10), 10);
    }

    @Says("as many as there is room for (no draws for others): how many came.")
    private static void promise09_noRoomAndSomeRoom() {
        ThirstLead x = new ThirstLead();
        for (int i = 0; i < 8; i++) {
            x.walker(0, 0, 0);
        }
        Due.is("deal(3) with room for 2", x.deal(3), 2);
        int z = 1;
        for (int i = 0; i < 6; i++) {
            z = Bands.next(z);
        }
        Due.is("z behind 6 draws", x.count(9), z);
        Due.is("count(0)", x.count(0), 10);
        Twins.changesNothing("deal(1) without room", () -> Bands.rich(10), y -> y.deal(1), 0);
        Twins.changesNothing("deal(10) without room", () -> Bands.rich(10), y -> y.deal(10), 0);
    }

    @Says({"KIND the rest of a draw by 6, SKIN that of one more by 31, KNOWS that of one more by 25",
        "z becomes z * 1103515245 + 12345 (an int); it gives z >>> 8."})
    private static void promise09_leastAndMostOfWhatIsDrawn() {
        int seen = 0;
        for (int seed = -60; seed < 60; seed++) {
            ThirstLead x = new ThirstLead();
            x.seed(seed * 71234567);
            x.deal(1);
            int first = Bands.next(seed * 71234567);
            int second = Bands.next(first);
            int third = Bands.next(second);
            int[] want = {Bands.given(first) % 6, 0, Bands.given(second) % 31, Bands.given(third) % 25, 0, 1};
            for (int what = 0; what < want.length; what++) {
                Due.is("told(0, " + what + ")", x.told(0, what), want[what]);
            }
            Due.is("z", x.count(9), third);
            seen |= (want[0] == 0 ? 1 : 0) | (want[0] == 5 ? 2 : 0) | (want[2] == 0 ? 4 : 0) | (want[2] == 30 ? 8 : 0);
            seen |= (want[3] == 0 ? 16 : 0) | (want[3] == 24 ? 32 : 0) | (first < 0 ? 64 : 0) | (second < 0 ? 128 : 0);
        }
        Due.is("the least and the most of each were drawn", seen, 255);
    }

    // ---- 10, seed

    @Says({"z becomes v: what it was.", "z becomes z * 1103515245 + 12345 (an int)"})
    private static void promise10_anyIntAndDrawsGoRound() {
        ThirstLead x = new ThirstLead();
        int[] seeds = {LEAST, MOST, 0, -1, 1};
        int was = 1;
        for (int v : seeds) {
            Due.is("seed(" + v + ")", x.seed(v), was);
            Due.is("z", x.count(9), v);
            x.hours(1);
            was = Bands.next(v);
            Due.is("z behind a draw", x.count(9), was);
            Due.is("HEAT", x.count(2), Bands.given(was) % 10);
        }
    }
}
