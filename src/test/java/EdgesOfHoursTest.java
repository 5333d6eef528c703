/** The edges that the document names for promises 11 and 12, a sentence a test. */
public final class EdgesOfHoursTest {
    private static final int BAD = ThirstLead.BAD, NONE = ThirstLead.NONE;
    private static final int LEAST = Integer.MIN_VALUE, MOST = Integer.MAX_VALUE;
    private static final int[] SLAKES = {5, 4, 6, 4, 7, 9};
    /** What the KINDS thirst in an even HOUR, if a WALKER thirsts 0. */
    private static final int[] THIRSTS = {0, 2, 0, 1, 0, 1};

    public static void main(String[] args) throws Exception {
        Edges.run(EdgesOfHoursTest.class);
    }

    // ---- 11, hours

    @Says("n (1 .. 100) HOURS (no more than up to 9999): how many are DEAD by them. BAD.")
    private static void promise11_badNumbers() {
        int[] bad = {0, 101, -1, LEAST, MOST};
        for (int n : bad) {
            Twins.changesNothing("hours(" + n + ")", () -> Bands.rich(4), x -> x.hours(n), BAD);
        }
    }

    @Says("n (1 .. 100) HOURS")
    private static void promise11_oneHourAndAHundred() {
        ThirstLead x = new ThirstLead();
        x.hours(1);
        Due.is("THE HOUR behind 1", x.count(1), 1);
        x.hours(100);
        Due.is("THE HOUR behind 100 more", x.count(1), 101);
        x = lateLed();
        x.hours(99);
        Due.is("the cell behind 99", x.band(0), 0);
        x = lateLed();
        x.hours(100);
        Due.is("the cell behind 100", x.band(0), 1);
    }

    /** A band that stays in cell 0 until a CAMEL leads it in the hundredth HOUR. */
    private static ThirstLead lateLed() {
        ThirstLead x = Bands.one(0, 89, 0);
        x.rule(3, 99);
        x.rule(1, 1);
        x.walker(5, 1, 0);
        return x;
    }

    @Says({"(no more than up to 9999)", "THE HOUR is 0 at first, 9999 at most."})
    private static void promise11_theLastHour() {
        ThirstLead x = Bands.atHour(9998);
        x.walker(5, 0, 0);
        Due.is("hours(100) at 9998", x.hours(100), 0);
        Due.is("THE HOUR", x.count(1), 9999);
        Due.is("one step", x.band(0), 1);
        Due.is("LED once", x.told(0, 4), 1);
        x = Bands.atHour(9990);
        x.walker(5, 0, 0);
        x.hours(9);
        Due.is("just up to 9999", x.count(1), 9999);
        Due.is("nine steps", x.band(0), 9);
    }

    @Says("(no more than up to 9999)")
    private static void promise11_noHourBehindTheLast() {
        Twins.Made late = () -> {
            ThirstLead x = Bands.atHour(9999);
            x.deal(5);
            x.set(1, 1, 99);
            x.water(0, 50);
            return x;
        };
        Twins.changesNothing("hours(1) at 9999", late, x -> x.hours(1), 0);
        Twins.changesNothing("hours(100) at 9999", late, x -> x.hours(100), 0);
    }

    @Says("how many are DEAD by them")
    private static void promise11_onlyTheDeadOfTheseHoursCount() {
        ThirstLead x = Bands.steady(1);
        x.walker(0, 0, 24);
        x.walker(0, 0, 24);
        x.walker(0, 0, 24);
        x.set(0, 1, 59);
        x.set(1, 1, 50);
        x.set(2, 1, 50);
        Due.is("hours(1)", x.hours(1), 1);
        Due.is("hours(1) more", x.hours(1), 0);
        Due.is("hours(100)", x.hours(100), 2);
        Due.is("DEATHS", x.band(2), 3);
        Due.is("hours(100) of nobody", x.hours(100), 0);
    }

    @Says("AN HOUR (without any that LIVES: only the draw, HEAT, and the hour)")
    private static void promise11_anHourWithoutWalkers() {
        ThirstLead x = new ThirstLead();
        x.rule(2, 100);
        x.water(0, 9);
        x.hours(1);
        onlyTheDraw(x, Bands.next(1), 1);
    }

    private static void onlyTheDraw(ThirstLead x, int z, int hour) {
        Due.is("z", x.count(9), z);
        Due.is("HEAT", x.count(2), Bands.given(z) % 10);
        Due.is("THE HOUR", x.count(1), hour);
        Due.is("LOST", x.band(3), 0);
        Due.is("the cell", x.band(0), 0);
        Due.is("WATER", x.water(0, 9), 9);
    }

    @Says("AN HOUR (without any that LIVES: only the draw, HEAT, and the hour)")
    private static void promise11_anHourOfTheDead() {
        ThirstLead x = Bands.one(5, 60, 0);
        x.set(0, 3, 0);
        x.hours(1);
        x.rule(4, 0);
        x.rule(2, 100);
        x.water(0, 9);
        x.set(0, 2, 7);
        x.set(0, 1, 70);
        Due.is("hours(1) of the dead", x.hours(1), 0);
        onlyTheDraw(x, Bands.next(Bands.next(Bands.next(1))), 2);
        int[] told = {5, 70, 7, 0, 1, 0};
        for (int what = 0; what < told.length; what++) {
            Due.is("told(0, " + what + ")", x.told(0, what), told[what]);
        }
        Due.is("DEATHS", x.band(2), 1);
    }

    @Says({"(1) A draw; HEAT is its rest by 10.", "A draw: z becomes z * 1103515245 + 12345 (an int); it gives z >>> 8."})
    private static void promise11_heatByItsDraw() {
        int seen = 0;
        for (int seed = -40; seed < 40; seed++) {
            ThirstLead x = new ThirstLead();
            x.walker(0, 0, 0);
            int z = Bands.next(seed * 55555555);
            int heat = Bands.given(z) % 10;
            x.seed(seed * 55555555);
            x.hours(1);
            Due.is("HEAT", x.count(2), heat);
            Due.is("THIRST by that HEAT", x.told(0, 1), heat + 1);
            seen |= (heat == 0 ? 1 : 0) | (heat == 9 ? 2 : 0) | (z < 0 ? 4 : 0) | (z > 0 ? 8 : 0);
        }
        Due.is("HEAT was 0 and 9, z below and above 0", seen, 15);
    }

    @Says("(2) THE LEADER: LED is 1 more; a draw;")
    private static void promise11_oneLedAndTwoDraws() {
        ThirstLead x = Bands.steady(0);
        x.walker(0, 0, 0);
        x.walker(0, 0, 0);
        x.set(1, 1, 1);
        x.hours(1);
        Due.is("LED of the leader", x.told(1, 4), 1);
        Due.is("LED of the other", x.told(0, 4), 0);
        Due.is("z", x.count(9), Bands.next(Bands.next(1)));
        Due.is("HEAT is of the first draw", x.count(2), Bands.given(Bands.next(1)) % 10);
    }

    @Says("LEADER: of those that LIVE the one with the most THIRST (of several the least).")
    private static void promise11_whoLeads() {
        ThirstLead x = Bands.steady(0);
        x.walker(0, 0, 6);
        x.walker(0, 0, 18);
        x.walker(0, 0, 18);
        x.hours(1);
        Due.is("of like ones the first leads", x.band(0), 1);
        x.set(1, 1, 9);
        x.set(2, 1, 9);
        x.hours(2);
        Due.is("the second, of the thirstiest", x.band(0), 23);
        Due.is("LED 0", x.told(0, 4), 1);
        Due.is("LED 1", x.told(1, 4), 2);
        Due.is("LED 2", x.told(2, 4), 0);
        x.set(1, 1, 60);
        x.hours(1);
        Due.is("one is DEAD", x.band(4), 5);
        x.hours(1);
        Due.is("the dead one leads no more", x.told(2, 4), 1);
    }

    private static int restOf(int seed) {
        return Bands.given(Bands.next(Bands.next(seed))) % 100;
    }

    private static int lostWith(int seed, int mirage) {
        ThirstLead x = Bands.steady(0);
        x.walker(0, 0, 5);
        x.rule(2, mirage);
        x.seed(seed);
        x.hours(1);
        Due.is("the cell goes with LOST", x.band(0), x.band(3) == 1 ? 23 : 1);
        return x.band(3);
    }

    @Says("a draw; if its rest by 100 is below MIRAGE")
    private static void promise11_aMirageIsBelowNotAt() {
        int seen = 0;
        for (int i = 0; i < 400; i++) {
            int seed = i * 7654321;
            int rest = restOf(seed);
            seen |= (rest == 0 ? 1 : 0) | (rest == 99 ? 2 : 0);
            Due.is("MIRAGE " + rest, lostWith(seed, rest), 0);
            Due.is("MIRAGE " + (rest + 1), lostWith(seed, rest + 1), 1);
            Due.is("MIRAGE 0", lostWith(seed, 0), 0);
            Due.is("MIRAGE 100", lostWith(seed, 100), 1);
        }
        Due.is("the rest was 0 and 99", seen, 3);
    }

    @Says("THE BAND goes 1 the other way than the leader GOES (stays, if that is 0) and LOST is 1 more; else as the leader GOES.")
    private static void promise11_theOtherWayOrStaying() {
        int[][] rows = {
            // KIND, KNOWS, cell; then without a mirage, with one
            {0, 5, 3, 4, 2}, {0, 1, 3, 2, 4}, {0, 3, 3, 3, 3}, {4, 24, 3, 2, 4}, {5, 3, 3, 4, 2}};
        for (int[] row : rows) {
            for (int mirage = 0; mirage < 2; mirage++) {
                ThirstLead x = Bands.steady(0);
                x.walker(row[0], 0, row[1]);
                x.rule(4, row[2]);
                x.rule(2, 100 * mirage);
                x.hours(1);
                Due.is("the cell, MIRAGE " + mirage, x.band(0), row[3 + mirage]);
                Due.is("LOST, MIRAGE " + mirage, x.band(3), mirage);
            }
        }
    }

    @Says("THE DESERT is a ring of cells 0 .. 23")
    private static void promise11_theRingGoesRound() {
        int[][] rows = {
            // KNOWS, cell, MIRAGE; then the cell
            {1, 23, 0, 0}, {22, 0, 0, 23}, {22, 23, 100, 0}, {1, 0, 100, 23}, {24, 23, 0, 0}, {24, 0, 100, 23}};
        for (int[] row : rows) {
            ThirstLead x = Bands.steady(0);
            x.walker(0, 0, row[0]);
            x.rule(4, row[1]);
            x.rule(2, row[2]);
            x.hours(1);
            Due.is("from " + row[1] + " with MIRAGE " + row[2], x.band(0), row[3]);
        }
        ThirstLead x = Bands.steady(0);
        x.walker(0, 0, 24);
        x.hours(24);
        Due.is("once round", x.band(0), 0);
    }

    @Says("(3) If WATER of the cell is above 0: those that LIVE by numbers")
    private static void promise11_theWellIsThatToWhichTheyCome() {
        ThirstLead x = Bands.steady(0);
        x.walker(0, 30, 1);
        x.set(0, 1, 10);
        x.water(0, 50);
        x.water(1, 40);
        x.hours(1);
        Due.is("WATER that they left", x.water(0, 0), 50);
        Due.is("WATER to which they came", x.water(1, 0), 38);
    }

    /** One WALKER of a KIND at a well of so many cups: what is left, THIRST, SKIN. */
    private static void atWell(int kind, int thirst, int skin, int cups, int... want) {
        ThirstLead x = Bands.one(kind, thirst, skin);
        int cell = kind == 5 ? 1 : 0;
        x.water(cell, cups);
        x.hours(1);
        String name = "KIND " + kind + ", THIRST " + thirst + ", SKIN " + skin + ", WATER " + cups + ": ";
        Due.is(name + "WATER", x.water(cell, 0), want[0]);
        Due.is(name + "THIRST", x.told(0, 1), want[1] + THIRSTS[kind]);
        Due.is(name + "SKIN", x.told(0, 2), want[2]);
    }

    @Says("each drinks cup by cup as long as there is WATER and THIRST is above 0 (each cup SLAKES; 0 at least)")
    private static void promise11_cupByCupToThirst0() {
        for (int kind = 0; kind < 6; kind++) {
            int s = SLAKES[kind];
            atWell(kind, 0, 30, 50, 50, 0, 30);
            atWell(kind, 1, 30, 50, 49, 0, 30);
            atWell(kind, s, 30, 50, 49, 0, 30);
            atWell(kind, s + 1, 30, 50, 48, 0, 30);
            atWell(kind, 2 * s, 30, 50, 48, 0, 30);
        }
        atWell(1, 99, 30, 99, 74, 0, 30);
        atWell(1, 99, 0, 99, 44, 0, 30);
    }

    @Says("as long as there is WATER and THIRST is above 0")
    private static void promise11_cupByCupToTheWellsEnd() {
        for (int kind = 0; kind < 6; kind++) {
            int s = SLAKES[kind];
            atWell(kind, s + 3, 4, 1, 0, 3, 4);
            atWell(kind, 2 * s, 4, 1, 0, s, 4);
            atWell(kind, 2 * s, 4, 2, 0, 0, 4);
            atWell(kind, 2 * s, 4, 3, 0, 0, 5);
        }
        atWell(0, 9, 4, 0, 0, 9, 4);
    }

    @Says("then fills SKIN to 30 as far as there is WATER")
    private static void promise11_skinsAreFilledTo30() {
        atWell(0, 0, 0, 29, 0, 0, 29);
        atWell(0, 0, 0, 30, 0, 0, 30);
        atWell(0, 0, 0, 31, 1, 0, 30);
        atWell(0, 0, 0, 99, 69, 0, 30);
        atWell(0, 0, 29, 1, 0, 0, 30);
        atWell(0, 0, 29, 2, 1, 0, 30);
        atWell(0, 0, 30, 1, 1, 0, 30);
        atWell(0, 5, 28, 2, 0, 0, 29);
        atWell(0, 5, 28, 1, 0, 0, 28);
    }

    @Says("those that LIVE by numbers: each drinks")
    private static void promise11_theFirstDrinkFirstAndTheDeadDoNot() {
        ThirstLead x = Bands.steady(0);
        for (int i = 0; i < 3; i++) {
            x.walker(0, 29, 0);
        }
        x.set(0, 1, 99);
        x.rule(1, 1);
        x.hours(1);
        x.set(0, 1, 10);
        x.set(1, 1, 10);
        x.set(2, 1, 10);
        x.set(1, 2, 29);
        x.set(2, 2, 0);
        x.water(0, 5);
        x.hours(1);
        int[][] want = {{10, 0}, {0, 30}, {0, 0}};
        for (int i = 0; i < 3; i++) {
            Due.is("THIRST " + i, x.told(i, 1), want[i][0]);
            Due.is("SKIN " + i, x.told(i, 2), want[i][1]);
        }
        Due.is("WATER", x.water(0, 0), 0);
    }

    @Says("THIRST is what it THIRSTS more (99 at most)")
    private static void promise11_thirstIs99AtMost() {
        int[][] rows = {{97, 1, 98}, {98, 1, 99}, {98, 2, 99}, {99, 0, 99}, {99, 40, 99}, {60, 39, 99}, {60, 40, 99}, {59, 39, 98}};
        for (int[] row : rows) {
            ThirstLead x = Bands.steady(row[1]);
            x.walker(0, 0, 0);
            x.set(0, 1, row[0]);
            x.hours(1);
            Due.is("THIRST " + row[0] + " and " + row[1], x.told(0, 1), row[2]);
        }
        ThirstLead x = Bands.steady(40);
        x.walker(0, 1, 0);
        x.set(0, 1, 80);
        x.hours(1);
        Due.is("99 ahead of the cup", x.told(0, 1), 94);
    }

    /** One WALKER of a KIND far from wells: THIRST and SKIN behind an HOUR of this SIP. */
    private static void sips(int kind, int thirst, int skin, int sip, int... want) {
        ThirstLead x = Bands.one(kind, thirst - THIRSTS[kind], skin);
        x.rule(1, sip);
        x.rule(3, 99);
        x.hours(1);
        String name = "KIND " + kind + ", THIRST " + thirst + ", SKIN " + skin + ", SIP " + sip + ": ";
        Due.is(name + "THIRST", x.told(0, 1), want[0]);
        Due.is(name + "SKIN", x.told(0, 2), want[1]);
    }

    @Says("then, if THIRST is 20 or more and SKIN above 0: it drinks SIP cups of SKIN")
    private static void promise11_sipsFromThirst20On() {
        for (int kind = 0; kind < 6; kind++) {
            sips(kind, 19, 30, 1, 19, 30);
            sips(kind, 20, 30, 1, 20 - SLAKES[kind], 29);
            sips(kind, 21, 30, 2, 21 - 2 * SLAKES[kind], 28);
        }
    }

    @Says("(as many as there are; each SLAKES; 0 at least)")
    private static void promise11_sipsAsManyAsThereAre() {
        sips(0, 50, 0, 9, 50, 0);
        sips(0, 50, 1, 2, 45, 0);
        sips(0, 50, 2, 2, 40, 0);
        sips(0, 50, 3, 2, 40, 1);
        sips(0, 50, 8, 9, 10, 0);
        sips(0, 50, 9, 9, 5, 0);
        sips(0, 50, 10, 9, 5, 1);
        sips(0, 50, 30, 1, 45, 29);
        sips(0, 20, 4, 4, 0, 0);
        sips(0, 21, 4, 4, 1, 0);
        sips(0, 20, 5, 5, 0, 0);
        sips(5, 20, 30, 9, 0, 21);
    }

    @Says("(4) Those that LIVE by numbers: THIRST is what it THIRSTS more (99 at most); then, if THIRST is 20 or more")
    private static void promise11_sipsComeBehindWellAndThirst() {
        ThirstLead x = Bands.steady(1);
        x.walker(0, 30, 0);
        x.set(0, 1, 19);
        x.hours(1);
        Due.is("19 and 1 sips", x.told(0, 1), 10);
        x.set(0, 1, 50);
        x.set(0, 2, 20);
        x.water(0, 7);
        x.hours(1);
        Due.is("slaked at the well to 15, no sip", x.told(0, 1), 16);
        Due.is("SKIN", x.told(0, 2), 20);
    }

    /** Whether one with this THIRST and SKIN lives behind an HOUR. */
    private static void lives(int deadly, int thirst, int skin, int want) {
        ThirstLead x = Bands.one(0, thirst, skin);
        x.rule(3, deadly);
        x.rule(1, 1);
        String name = "DEADLY " + deadly + ", THIRST " + thirst + ", SKIN " + skin;
        Due.is(name + ": hours(1)", x.hours(1), 1 - want);
        Due.is(name + ": LIVES", x.told(0, 5), want);
        Due.is(name + ": DEATHS", x.band(2), 1 - want);
    }

    @Says("(5) Those with THIRST of DEADLY or more are DEAD, by numbers (DEATHS 1 more each)")
    private static void promise11_deadlyOrMore() {
        int[] all = {20, 21, 60, 98, 99};
        for (int deadly : all) {
            lives(deadly, deadly - 1, 0, 1);
            lives(deadly, deadly, 0, 0);
        }
        lives(60, 99, 0, 0);
        lives(60, 64, 1, 1);
        lives(60, 65, 1, 0);
        lives(20, 24, 1, 1);
        lives(20, 25, 1, 0);
    }

    @Says("(5) Those with THIRST of DEADLY or more are DEAD")
    private static void promise11_theDeadDieOnce() {
        ThirstLead x = Bands.one(0, 60, 0);
        x.walker(0, 0, 0);
        Due.is("hours(1)", x.hours(1), 1);
        Due.is("hours(5)", x.hours(5), 0);
        Due.is("DEATHS", x.band(2), 1);
    }

    @Says("what is in their SKINS, together, goes to the LEADER of those left then (SKIN 30 at most; the rest is spilt;")
    private static void promise11_skinsOfTheDeadGoToTheLeaderOfThoseLeft() {
        int[][] rows = {{0, 14}, {15, 29}, {16, 30}, {17, 30}, {30, 30}};
        for (int[] row : rows) {
            ThirstLead x = Bands.steady(0);
            int[] skins = {11, 3, row[0], 3, 5};
            int[] thirsts = {70, 10, 15, 15, 90};
            for (int i = 0; i < 5; i++) {
                x.walker(0, skins[i], 0);
                x.set(i, 1, thirsts[i]);
            }
            x.rule(1, 1);
            // The first and the last drink a cup each and die all the same: 10 and 4 cups are left.
            Due.is("hours(1)", x.hours(1), 2);
            int[] want = {0, 3, row[1], 3, 0};
            for (int i = 0; i < 5; i++) {
                Due.is("SKIN " + i + " from " + row[0], x.told(i, 2), want[i]);
            }
        }
    }

    @Says("all, if nobody is left); their SKINS are 0 then.")
    private static void promise11_skinsAreSpiltIfNobodyIsLeft() {
        ThirstLead x = Bands.steady(0);
        x.walker(0, 30, 0);
        x.walker(0, 30, 0);
        x.set(0, 1, 90);
        x.set(1, 1, 90);
        Due.is("hours(1)", x.hours(1), 2);
        Due.is("SKIN 0", x.told(0, 2), 0);
        Due.is("SKIN 1", x.told(1, 2), 0);
    }

    @Says("goes to the LEADER of those left then")
    private static void promise11_skinsLaidOnTheDeadStay() {
        ThirstLead x = Bands.one(0, 60, 0);
        x.walker(0, 0, 0);
        x.walker(0, 0, 0);
        x.hours(1);
        x.set(0, 2, 8);
        x.set(1, 1, 60);
        Due.is("hours(1)", x.hours(1), 1);
        Due.is("SKIN of the one that was DEAD", x.told(0, 2), 8);
        Due.is("SKIN of the one that is left", x.told(2, 2), 0);
    }

    @Says("THE HOUR is 1 more.")
    private static void promise11_theHourIsOneMoreAtItsEnd() {
        ThirstLead x = Bands.steady(0);
        x.walker(4, 0, 0);
        x.hours(1);
        Due.is("a BOY in HOUR 0", x.told(0, 1), 0);
        x.hours(1);
        Due.is("a BOY in HOUR 1", x.told(0, 1), 1);
        x.hours(1);
        Due.is("a BOY in HOUR 2", x.told(0, 1), 1);
        Due.is("THE HOUR", x.count(1), 3);
    }

    // ---- 12, band

    @Says("5 THIRST of these, together, 6 WELLS, as a set. BAD.")
    private static void promise12_badWhats() {
        int[] bad = {-1, 7, LEAST, MOST};
        for (int what : bad) {
            Twins.changesNothing("band(" + what + ")", () -> Bands.rich(4), x -> x.band(what), BAD);
        }
    }

    @Says({"1 the LEADER (NONE)", "NONE: there is none."})
    private static void promise12_noLeader() {
        ThirstLead x = new ThirstLead();
        Due.is("no WALKERS", x.band(1), NONE);
        x.walker(0, 0, 0);
        Due.is("one", x.band(1), 0);
        x.set(0, 1, 99);
        x.hours(1);
        Due.is("all DEAD", x.band(1), NONE);
    }

    @Says("LEADER: of those that LIVE the one with the most THIRST (of several the least).")
    private static void promise12_theLeaderOfLikeOnes() {
        ThirstLead x = Bands.rich(10);
        for (int i = 0; i < 10; i++) {
            x.set(i, 1, 40);
        }
        Due.is("all alike", x.band(1), 0);
        x.set(8, 1, 41);
        x.set(9, 1, 41);
        Due.is("two of them", x.band(1), 8);
        x.set(9, 1, 42);
        Due.is("the last", x.band(1), 9);
        x.set(2, 1, 99);
        Due.is("not the dead one", x.band(1), 9);
    }

    @Says({"4 those that LIVE, as a set", "Sets of WALKERS, of cells are told by bits."})
    private static void promise12_theLivingFromNoneToTen() {
        ThirstLead x = new ThirstLead();
        Due.is("none", x.band(4), 0);
        x.walker(5, 0, 0);
        Due.is("one", x.band(4), 1);
        for (int i = 1; i < 10; i++) {
            x.walker(5, 0, 0);
        }
        Due.is("ten", x.band(4), 1023);
        x.set(0, 1, 99);
        x.hours(1);
        Due.is("the first is DEAD", x.band(4), 1022);
        x.set(9, 1, 99);
        x.hours(1);
        Due.is("the last is DEAD", x.band(4), 510);
    }

    @Says("5 THIRST of these, together")
    private static void promise12_thirstOfTheLivingAlone() {
        ThirstLead x = new ThirstLead();
        for (int i = 0; i < 10; i++) {
            x.walker(0, 0, 0);
            x.set(i, 1, 99);
        }
        Due.is("ten with 99", x.band(5), 990);
        x = Bands.one(0, 99, 0);
        x.walker(0, 0, 0);
        x.set(1, 1, 7);
        x.hours(1);
        Due.is("without the dead", x.band(5), 7);
    }

    @Says({"6 WELLS, as a set", "a WELL, if it is above 0"})
    private static void promise12_wellsFromNoneToAll() {
        ThirstLead x = new ThirstLead();
        x.water(0, 1);
        Due.is("a cup in the first cell", x.band(6), 1);
        x.water(0, 0);
        Due.is("none", x.band(6), 0);
        x.water(23, 1);
        Due.is("a cup in the last cell", x.band(6), 8388608);
        for (int cell = 0; cell < 24; cell++) {
            x.water(cell, 99);
        }
        Due.is("all", x.band(6), 16777215);
    }

    @Says("What is 0 the cell of THE BAND, 1 the LEADER (NONE), 2 DEATHS, 3 LOST")
    private static void promise12_cellDeathsAndLost() {
        ThirstLead x = Bands.steady(0);
        x.walker(0, 0, 24);
        x.walker(0, 0, 24);
        x.set(1, 1, 60);
        x.rule(2, 100);
        x.hours(3);
        Due.is("the cell", x.band(0), 21);
        Due.is("DEATHS", x.band(2), 1);
        Due.is("LOST", x.band(3), 3);
    }
}
