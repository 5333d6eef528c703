/** The edges that the document names for promises 13 to 22, a sentence a test. */
public final class EdgesOfThoughtsTest {
    private static final int BAD = ThirstLead.BAD, NONE = ThirstLead.NONE, NOTHING = ThirstLead.NOTHING;
    private static final int LEAST = Integer.MIN_VALUE, MOST = Integer.MAX_VALUE;

    public static void main(String[] args) throws Exception {
        Edges.run(EdgesOfThoughtsTest.class);
    }

    private static void refused(String name, Twins.Call call, int want) {
        Twins.changesNothing(name, () -> Bands.rich(4), call, want);
    }

    /** What is only thought: whatever the answer is, it changes nothing. */
    private static void onlyThought(String name, Twins.Call call) {
        Twins.changesNothing(name, () -> Bands.rich(10), call, call.on(Bands.rich(10)));
    }

    /** One WALKER that stays in cell 0 and thirsts 1 more in an HOUR, with so much THIRST. */
    private static ThirstLead slow(int thirst) {
        ThirstLead x = Bands.steady(1);
        x.walker(0, 0, 0);
        x.set(0, 1, thirst);
        return x;
    }

    /** The same in the last HOUR that there is. */
    private static ThirstLead slowAndLate(int thirst) {
        ThirstLead x = slow(thirst);
        ThirstLead late = Bands.atHour(9999);
        Due.textOf(late, "thirst 1");
        late.walker(0, 0, 0);
        late.set(0, 1, x.told(0, 1));
        return late;
    }

    private static ThirstLead allDead() {
        ThirstLead x = Bands.one(0, 60, 0);
        x.hours(1);
        return x;
    }

    // ---- 13, behind

    @Says("BEHIND n (0 .. 100) HOURS")
    private static void promise13_badNumbers() {
        int[] bad = {-1, 101, LEAST, MOST};
        for (int n : bad) {
            refused("behind(" + n + ", 0)", x -> x.behind(n, 0), BAD);
        }
    }

    @Says("3 and k: THIRST of WALKER k. BAD.")
    private static void promise13_badWhats() {
        int[] bad = {-1, 7, LEAST, MOST};
        for (int what : bad) {
            refused("behind(1, " + what + ")", x -> x.behind(1, what), BAD);
        }
        Due.is("no WALKERS", new ThirstLead().behind(0, 3), BAD);
        ThirstLead x = Bands.rich(10);
        Due.is("the last of ten", x.behind(0, 12), x.told(9, 1));
        Due.is("no eleventh", x.behind(0, 13), BAD);
    }

    @Says("BEHIND n (0 .. 100) HOURS: what 0 the cell, 1 DEATHS, 2 those that LIVE; 3 and k: THIRST of WALKER k.")
    private static void promise13_behind0IsNow() {
        ThirstLead x = Bands.rich(10);
        Due.is("the cell", x.behind(0, 0), x.band(0));
        Due.is("DEATHS", x.behind(0, 1), x.band(2));
        Due.is("those that LIVE", x.behind(0, 2), x.band(4));
        for (int k = 0; k < 10; k++) {
            Due.is("THIRST of " + k, x.behind(0, 3 + k), x.told(k, 1));
        }
    }

    @Says("from now on, z as it is")
    private static void promise13_behindIsAsHoursWouldBe() {
        int[] all = {1, 2, 17, 99, 100};
        for (int n : all) {
            ThirstLead x = Bands.rich(10);
            ThirstLead y = Bands.rich(10);
            y.hours(n);
            Due.is("the cell behind " + n, x.behind(n, 0), y.band(0));
            Due.is("DEATHS behind " + n, x.behind(n, 1), y.band(2));
            Due.is("those that LIVE behind " + n, x.behind(n, 2), y.band(4));
            for (int k = 0; k < 10; k++) {
                Due.is("THIRST of " + k + " behind " + n, x.behind(n, 3 + k), y.told(k, 1));
            }
        }
    }

    @Says("without the bound of THE HOUR: nothing changes.)")
    private static void promise13_behindTheLastHour() {
        ThirstLead x = slowAndLate(0);
        x.set(0, 3, 24);
        x.walker(4, 0, 0);
        Due.is("the cell behind 50", x.behind(50, 0), 2);
        Due.is("THIRST behind 59", x.behind(59, 3), 59);
        Due.is("DEATHS behind 60", x.behind(60, 1), 1);
        // A BOY thirsts 1 more in each HOUR that is odd: 9999, 10001 and so on.
        Due.is("a BOY behind 1", x.behind(1, 4), 1);
        Due.is("a BOY behind 2", x.behind(2, 4), 1);
        Due.is("a BOY behind 3", x.behind(3, 4), 2);
    }

    @Says("(All this is only thought, from now on, z as it is, without the bound of THE HOUR: nothing changes.)")
    private static void promise13_nothingChanges() {
        onlyThought("behind(0, 0)", x -> x.behind(0, 0));
        onlyThought("behind(100, 12)", x -> x.behind(100, 12));
    }

    // ---- 14, lasts

    @Says("LASTS: behind how many HOURS (1 .. 200) DEATHS are more than now first.")
    private static void promise14_from1To200() {
        Due.is("behind 1", slow(59).lasts(), 1);
        Due.is("behind 1, with DEADLY THIRST", slow(99).lasts(), 1);
        Due.is("behind 2", slow(58).lasts(), 2);
        // A CAMEL thirsts 1 more in an HOUR; 16 cups of 9 each are 144 HOURS more than without any.
        int[][] rows = {{5, 199}, {4, 200}, {3, NONE}};
        for (int[] row : rows) {
            ThirstLead x = new ThirstLead();
            x.rule(1, 1);
            x.walker(5, 16, 0);
            x.set(0, 1, row[0]);
            Due.is("a CAMEL with THIRST " + row[0], x.lasts(), row[1]);
        }
    }

    @Says("LASTS. NONE: not by then.")
    private static void promise14_noneIfNobodyDies() {
        Due.is("no WALKERS", new ThirstLead().lasts(), NONE);
        Due.is("all DEAD", allDead().lasts(), NONE);
        Due.is("nobody thirsts", Bands.one(0, 59, 0).lasts(), NONE);
    }

    @Says("(All this is only thought, from now on, z as it is")
    private static void promise14_ledAsInHours() {
        ThirstLead x = Bands.steady(10);
        x.walker(0, 0, 2);
        Due.is("without a well", x.lasts(), 6);
        x.water(2, 2);
        // In the second HOUR it drinks two cups, which are the THIRST of one HOUR.
        Due.is("led to a well", x.lasts(), 7);
        for (int walkers = 4; walkers <= 10; walkers++) {
            ThirstLead y = Bands.rich(walkers);
            int n = y.lasts();
            Due.is("DEATHS just ahead", y.behind(n - 1, 1), y.band(2));
            Due.holds("DEATHS are more behind " + n, y.behind(n, 1) > y.band(2));
        }
    }

    @Says("DEATHS are more than now first")
    private static void promise14_moreThanNow() {
        ThirstLead x = slow(59);
        x.walker(0, 0, 0);
        x.walker(0, 0, 0);
        x.set(1, 1, 40);
        x.hours(1);
        Due.is("DEATHS", x.band(2), 1);
        Due.is("the next one", x.lasts(), 19);
    }

    @Says("without the bound of THE HOUR: nothing changes.)")
    private static void promise14_behindTheLastHour() {
        Due.is("lasts()", slowAndLate(0).lasts(), 60);
        onlyThought("lasts()", ThirstLead::lasts);
    }

    // ---- 15, salted

    @Says("SALTED for n (1 .. 60): what 0 the WALKER, 1 DEATHS. BAD; NONE: none LIVES.")
    private static void promise15_badNumbersAndBadWhats() {
        int[][] bad = {{0, 0}, {61, 0}, {-1, 0}, {LEAST, 0}, {MOST, 0}, {1, -1}, {1, 2}, {1, LEAST}, {1, MOST}};
        for (int[] b : bad) {
            refused("salted(" + b[0] + ", " + b[1] + ")", x -> x.salted(b[0], b[1]), BAD);
            Due.is("BAD comes ahead of NONE", new ThirstLead().salted(b[0], b[1]), BAD);
        }
    }

    @Says("NONE: none LIVES.")
    private static void promise15_noneLives() {
        for (int what = 0; what < 2; what++) {
            Due.is("no WALKERS", new ThirstLead().salted(1, what), NONE);
            Due.is("all DEAD", allDead().salted(60, what), NONE);
        }
    }

    @Says("SALTED for n (1 .. 60)")
    private static void promise15_oneHourAndSixty() {
        ThirstLead x = slow(29);
        Due.is("for 1, 29 and 30 and 1", x.salted(1, 1), 1);
        x.set(0, 1, 28);
        Due.is("for 1, 28 and 30 and 1", x.salted(1, 1), 0);
        x.rule(3, 99);
        x.set(0, 1, 9);
        Due.is("for 59, 9 and 30 and 59", x.salted(59, 1), 0);
        Due.is("for 60, 9 and 30 and 60", x.salted(60, 1), 1);
    }

    @Says("with whose THIRST 30 more now (99 at most)")
    private static void promise15_saltedTo99AtMost() {
        // At a well of 12 cups 99 becomes 39; from 100 on it would be 40 or more, and that is deadly.
        int[] thirsts = {69, 70, 90, 99};
        for (int thirst : thirsts) {
            ThirstLead x = Bands.one(0, thirst, 30);
            x.rule(3, 40);
            x.rule(1, 1);
            x.water(0, 12);
            x.set(0, 2, 0);
            Due.is("THIRST " + thirst, x.salted(1, 1), 0);
            x.water(0, 11);
            Due.is("THIRST " + thirst + ", a cup less", x.salted(1, 1), 1);
        }
    }

    @Says("fewest are DEAD behind n HOURS (DEATHS in all); of several the least.")
    private static void promise15_fewestOfSeveralTheLeast() {
        ThirstLead x = Bands.steady(0);
        int[] thirsts = {40, 29, 29, 30};
        for (int i = 0; i < 4; i++) {
            x.walker(0, 0, 0);
            x.set(i, 1, thirsts[i]);
        }
        Due.is("the WALKER", x.salted(1, 0), 1);
        Due.is("DEATHS", x.salted(1, 1), 0);
        x.set(1, 1, 40);
        x.set(2, 1, 40);
        Due.is("all alike", x.salted(1, 0), 0);
        Due.is("all alike, DEATHS", x.salted(1, 1), 1);
        x.set(3, 1, 0);
        Due.is("the last", x.salted(1, 0), 3);
    }

    @Says({"SALTED for n: the WALKER that LIVES", "(DEATHS in all)"})
    private static void promise15_onlyThoseThatLiveAndAllDeaths() {
        ThirstLead x = allDead();
        x.walker(0, 0, 0);
        Due.is("not the dead one", x.salted(1, 0), 1);
        Due.is("with the one that was DEAD", x.salted(1, 1), 1);
        x.set(1, 1, 40);
        Due.is("and one more", x.salted(1, 1), 2);
    }

    @Says("without the bound of THE HOUR: nothing changes.)")
    private static void promise15_behindTheLastHour() {
        ThirstLead x = slowAndLate(0);
        Due.is("for 29", x.salted(29, 1), 0);
        Due.is("for 30", x.salted(30, 1), 1);
        onlyThought("salted(60, 0)", y -> y.salted(60, 0));
        onlyThought("salted(1, 1)", y -> y.salted(1, 1));
    }

    // ---- 16, tells

    @Says("TELLS of a WALKER, for n (1 .. 40): what 0 the cell, 1 DEATHS. BAD.")
    private static void promise16_badWalkersNumbersAndWhats() {
        int[][] bad = {
            {-1, 1, 0}, {4, 1, 0}, {LEAST, 1, 0}, {MOST, 1, 0}, {0, 0, 0}, {0, 41, 0}, {0, -1, 0}, {0, LEAST, 0},
            {0, MOST, 0}, {0, 1, -1}, {0, 1, 2}, {0, 1, LEAST}, {0, 1, MOST}};
        for (int[] b : bad) {
            String name = "tells(" + b[0] + ", " + b[1] + ", " + b[2] + ")";
            refused(name, x -> x.tells(b[0], b[1], b[2]), BAD);
        }
        Due.is("no WALKERS", new ThirstLead().tells(0, 1, 0), BAD);
    }

    @Says("for n (1 .. 40)")
    private static void promise16_oneHourAndForty() {
        ThirstLead x = slow(59);
        Due.is("for 1", x.tells(0, 1, 1), 1);
        x.set(0, 1, 20);
        Due.is("for 39", x.tells(0, 39, 1), 0);
        Due.is("for 40", x.tells(0, 40, 1), 1);
    }

    @Says("TELLS of a WALKER, for n: the cell 0 .. 23 which, if it KNEW it now, leaves fewest DEATHS behind n HOURS")
    private static void promise16_everyCellMayBeBest() {
        // The well, two cells off, is drunk from again and again by those alone that stay there.
        for (int cell = 0; cell < 24; cell++) {
            ThirstLead x = Bands.steady(10);
            x.walker(0, 0, 24);
            x.rule(4, (cell + 2) % 24);
            x.water(cell, 99);
            Due.is("the cell", x.tells(0, 40, 0), cell);
            Due.is("DEATHS", x.tells(0, 40, 1), 0);
            x.water(cell, 0);
            Due.is("DEATHS without it", x.tells(0, 40, 1), 1);
        }
    }

    @Says("the cell 0 .. 23 which, if it KNEW it now")
    private static void promise16_toKnowNoneIsNotAmongThem() {
        ThirstLead x = Bands.steady(10);
        x.walker(0, 0, 24);
        for (int cell = 0; cell < 24; cell++) {
            x.water(cell, 2);
        }
        // Each cell has water for one HOUR: whoever stays in one dies, who walks on (KNOWS 24) does not.
        Due.is("DEATHS, if it KNOWS none", x.behind(20, 1), 0);
        Due.is("DEATHS, whichever cell it KNOWS", x.tells(0, 20, 1), 1);
        Due.is("the cell", x.tells(0, 20, 0), 0);
    }

    @Says("leaves fewest DEATHS behind n HOURS; of several the least.")
    private static void promise16_ofSeveralTheLeast() {
        ThirstLead x = slow(0);
        Due.is("nobody dies", x.tells(0, 40, 0), 0);
        x.set(0, 1, 99);
        Due.is("it dies in any case", x.tells(0, 40, 0), 0);
        x = Bands.steady(10);
        x.walker(0, 0, 24);
        x.set(0, 1, 45);
        x.water(23, 99);
        // It must go back at once: from cell 0 that is the nearer way to 13 .. 23.
        Due.is("the least of 13 .. 23", x.tells(0, 2, 0), 13);
    }

    @Says("TELLS of a WALKER")
    private static void promise16_ofADeadOneNothingIsBetter() {
        ThirstLead x = allDead();
        x.walker(0, 0, 0);
        x.set(1, 1, 59);
        Due.textOf(x, "thirst 1");
        Due.is("the cell", x.tells(0, 1, 0), 0);
        Due.is("DEATHS in all", x.tells(0, 1, 1), 2);
    }

    @Says("without the bound of THE HOUR: nothing changes.)")
    private static void promise16_behindTheLastHour() {
        ThirstLead x = slowAndLate(20);
        Due.is("for 39", x.tells(0, 39, 1), 0);
        Due.is("for 40", x.tells(0, 40, 1), 1);
        onlyThought("tells(3, 40, 0)", y -> y.tells(3, 40, 0));
        onlyThought("tells(2, 1, 1)", y -> y.tells(2, 1, 1));
    }

    // ---- 17, custom

    @Says("CUSTOM for n (1 .. 60). BAD.")
    private static void promise17_badNumbers() {
        int[] bad = {0, 61, -1, LEAST, MOST};
        for (int n : bad) {
            refused("custom(" + n + ")", x -> x.custom(n), BAD);
        }
    }

    /** One that goes to cell 1 and stays there, by a well in a cell; it dies in the sixtieth HOUR without it. */
    private static ThirstLead byWell(int cell) {
        ThirstLead x = slow(0);
        x.set(0, 3, 1);
        x.water(cell, 99);
        return x;
    }

    @Says({"CUSTOM for n (1 .. 60)", "CUSTOM for n: how many more (or fewer) are DEAD behind n HOURS"})
    private static void promise17_moreOrFewerFrom1To60() {
        Due.is("away from the well, 59", byWell(0).custom(59), 0);
        Due.is("away from the well, 60", byWell(0).custom(60), 1);
        Due.is("to the well, 59", byWell(1).custom(59), 0);
        Due.is("to the well, 60", byWell(1).custom(60), -1);
        Due.is("to no well, 60", byWell(2).custom(60), 0);
        ThirstLead x = byWell(0);
        x.set(0, 1, 59);
        Due.is("for 1", x.custom(1), 1);
        Due.is("no WALKERS", new ThirstLead().custom(60), 0);
        Due.is("all DEAD", allDead().custom(60), 0);
    }

    @Says("than if THE BAND stayed in its cell all the time")
    private static void promise17_theOtherBandStaysInAnyCell() {
        ThirstLead x = byWell(0);
        x.set(0, 3, 23);
        x.rule(2, 100);
        x.rule(4, 23);
        x.water(23, 99);
        x.water(0, 0);
        // With mirages alone the band still stays by the well: its leader GOES 0.
        Due.is("both stay", x.custom(60), 0);
        x.rule(4, 22);
        Due.is("neither comes to it", x.custom(60), 0);
        x.set(0, 3, 20);
        Due.is("led to it by mirages", x.custom(60), -1);
    }

    @Says("(and nobody led: no draws for MIRAGES)")
    private static void promise17_noDrawsForMirages() {
        int seen = 0;
        for (int seed = 0; seed < 40; seed++) {
            ThirstLead x = new ThirstLead();
            x.walker(0, 0, 0);
            x.rule(3, 20);
            x.seed(seed * 7654321);
            int z = seed * 7654321;
            int y = z;
            int led = 0;
            int alone = 0;
            for (int n = 1; n <= 6; n++) {
                z = Bands.next(z);
                led += Bands.given(z) % 10 + 1;
                z = Bands.next(z);
                y = Bands.next(y);
                alone += Bands.given(y) % 10 + 1;
                int want = (led >= 20 ? 1 : 0) - (alone >= 20 ? 1 : 0);
                Due.is("custom(" + n + ")", x.custom(n), want);
                seen |= want == 0 ? 1 : want > 0 ? 2 : 4;
            }
        }
        Due.is("more, fewer and as many were seen", seen, 7);
    }

    @Says("without the bound of THE HOUR: nothing changes.)")
    private static void promise17_behindTheLastHour() {
        ThirstLead x = slowAndLate(0);
        x.set(0, 3, 1);
        x.water(0, 99);
        Due.is("custom(60)", x.custom(60), 1);
        onlyThought("custom(60)", y -> y.custom(60));
    }

    // ---- 18, enough

    @Says("ENOUGH for n (1 .. 40). BAD; NONE: none is.")
    private static void promise18_badNumbers() {
        int[] bad = {0, 41, -1, LEAST, MOST};
        for (int n : bad) {
            refused("enough(" + n + ")", x -> x.enough(n), BAD);
        }
    }

    @Says("ENOUGH for n (1 .. 40)")
    private static void promise18_oneHourAndForty() {
        Due.is("for 1, 58 and 1", slow(58).enough(1), 0);
        Due.is("for 1, 59 and 1", slow(59).enough(1), 1);
        Due.is("for 39", slow(20).enough(39), 0);
        Due.is("for 40", slow(20).enough(40), 1);
    }

    @Says("the least number of cups 0 .. 30 which")
    private static void promise18_from0To30Cups() {
        // 10 more in an HOUR, 2 cups of 5: 20 HOURS are 200, of which 59 may stay.
        int[][] rows = {{0, 29}, {4, 29}, {5, 30}, {9, 30}, {10, NONE}};
        for (int[] row : rows) {
            ThirstLead x = Bands.steady(10);
            x.walker(0, 0, 0);
            x.set(0, 1, row[0]);
            Due.is("THIRST " + row[0], x.enough(20), row[1]);
        }
    }

    @Says("ENOUGH for n (1 .. 40). BAD; NONE: none is.")
    private static void promise18_noneIs() {
        ThirstLead x = Bands.one(0, 65, 0);
        x.rule(1, 1);
        Due.is("65, a cup of 5 at most", x.enough(1), NONE);
        x.set(0, 1, 64);
        Due.is("64, a cup of 5 at most", x.enough(1), 1);
    }

    @Says("if all that LIVE had as much in their SKINS now")
    private static void promise18_allThatLiveHaveAsMuch() {
        ThirstLead x = slow(20);
        x.set(0, 2, 30);
        Due.is("who has more has less", x.enough(40), 1);
        x.walker(0, 0, 0);
        x.set(1, 1, 25);
        Due.is("the thirstier one asks for more", x.enough(40), 2);
        Due.is("nobody LIVES", new ThirstLead().enough(40), 0);
        Due.is("all DEAD", allDead().enough(40), 0);
    }

    @Says("(All this is only thought, from now on, z as it is")
    private static void promise18_ledAsInHours() {
        ThirstLead x = Bands.steady(10);
        x.walker(0, 0, 2);
        Due.is("without a well", x.enough(6), 1);
        x.water(2, 2);
        Due.is("led to a well", x.enough(6), 0);
        x.water(2, 0);
        x.water(0, 99);
        Due.is("led away from a well", x.enough(6), 1);
    }

    @Says("leave DEATHS behind n HOURS as they are now")
    private static void promise18_deathsAsTheyAreNow() {
        ThirstLead x = allDead();
        x.walker(0, 0, 0);
        x.set(1, 1, 60);
        Due.is("one is DEAD, the next one sips", x.enough(1), 1);
    }

    @Says("without the bound of THE HOUR: nothing changes.)")
    private static void promise18_behindTheLastHour() {
        Due.is("for 39", slowAndLate(20).enough(39), 0);
        Due.is("for 40", slowAndLate(20).enough(40), 1);
        onlyThought("enough(40)", x -> x.enough(40));
        onlyThought("enough(1)", x -> x.enough(1));
    }

    // ---- 19, shown

    @Says("SHOWN for n (1 .. 100), as a set. BAD.")
    private static void promise19_badNumbers() {
        int[] bad = {0, 101, -1, LEAST, MOST};
        for (int n : bad) {
            refused("shown(" + n + ")", x -> x.shown(n), BAD);
        }
    }

    @Says("SHOWN for n (1 .. 100)")
    private static void promise19_oneHourAndAHundred() {
        ThirstLead x = Bands.one(0, 89, 0);
        x.rule(3, 99);
        x.rule(1, 1);
        x.walker(5, 1, 0);
        // The CAMEL is the thirstiest, and so leads away, in the hundredth HOUR.
        Due.is("for 1", x.shown(1), 1);
        Due.is("for 99", x.shown(99), 1);
        Due.is("for 100", x.shown(100), 3);
    }

    @Says("cells in which THE BAND is at the end of any of n HOURS, as a set.")
    private static void promise19_atTheEndNotAtTheStart() {
        ThirstLead x = Bands.steady(0);
        x.walker(0, 0, 24);
        Due.is("for 1", x.shown(1), 2);
        Due.is("for 23", x.shown(23), 16777214);
        Due.is("for 24, round the ring", x.shown(24), 16777215);
        x.rule(4, 22);
        Due.is("across the end", x.shown(2), 8388609);
        x.set(0, 3, 22);
        Due.is("staying", x.shown(100), 4194304);
        Due.is("no WALKERS", new ThirstLead().shown(100), 1);
    }

    @Says("without the bound of THE HOUR: nothing changes.)")
    private static void promise19_behindTheLastHour() {
        ThirstLead x = slowAndLate(0);
        x.set(0, 3, 2);
        Due.is("shown(5)", x.shown(5), 6);
        onlyThought("shown(100)", y -> y.shown(100));
    }

    // ---- 20, thirsted

    @Says({"THIRSTED by a SHEET, for a WALKER: what 0 the THIRST, 1 the differences, together. BAD; NOTHING.",
        "of several the one that stands first with it"})
    private static void promise20_badComesAheadOfNothing() {
        int[][] bad = {{-1, 0, 0}, {4, 0, 0}, {LEAST, 0, 0}, {MOST, 0, 0}, {3, -1, 0}, {3, 4, 0}, {3, LEAST, 0},
            {3, MOST, 0}, {3, 0, -1}, {3, 0, 2}, {3, 0, LEAST}, {3, 0, MOST}, {0, 4, 0}, {0, 0, 2}};
        for (int[] b : bad) {
            String name = "thirsted(" + b[0] + ", " + b[1] + ", " + b[2] + ")";
            refused(name, x -> x.thirsted(b[0], b[1], b[2]), BAD);
        }
        refused("thirsted(3, 0, 0)", x -> x.thirsted(3, 0, 0), NOTHING);
        refused("thirsted(3, 3, 1)", x -> x.thirsted(3, 3, 1), NOTHING);
    }

    /** One that stays and thirsts 1 more an HOUR up to 98, with a SHEET of floats, all NO NUMBER. */
    private static ThirstLead guessed(int places) {
        ThirstLead x = slow(0);
        x.rule(3, 99);
        x.sheet(0, 1, places);
        for (int i = 0; i < places; i++) {
            x.mark(0, i, NONE);
        }
        return x;
    }

    private static void thirsted(String name, ThirstLead x, int thirst, int differences) {
        Due.is(name + ", THIRST", x.thirsted(0, 0, 0), thirst);
        Due.is(name + ", differences", x.thirsted(0, 0, 1), differences);
    }

    @Says("the THIRST 0, 5, .. 95 now")
    private static void promise20_from0To95ByFives() {
        int[][] rows = {{0, 0, 0}, {-7, 0, 7}, {2, 0, 2}, {3, 5, 2}, {92, 90, 2}, {93, 95, 2}, {95, 95, 0}, {98, 95, 3}, {99999, 95, 99904},
            {-99999, 0, 99999}};
        for (int[] row : rows) {
            ThirstLead x = guessed(1);
            x.mark(0, 0, row[0]);
            thirsted("place 0 is " + row[0], x, row[1], row[2]);
        }
    }

    @Says("places k that are numbers (k from 0 on)")
    private static void promise20_numbersAloneFromPlace0On() {
        ThirstLead x = guessed(3);
        thirsted("no numbers", x, 0, 0);
        x.mark(0, 0, 40);
        thirsted("place 0", x, 40, 0);
        x.mark(0, 0, NONE);
        x.mark(0, 1, 41);
        thirsted("place 1", x, 40, 0);
        x.mark(0, 2, 42);
        thirsted("places 1 and 2", x, 40, 0);
        x = guessed(24);
        x.mark(0, 23, 33);
        thirsted("the last place", x, 10, 0);
        x.sheet(0, 0, 0);
        thirsted("no places", x, 0, 0);
        x.sheet(0, 0, 2);
        // From 0 on it is 0 and 1.
        thirsted("shorts that are 0", x, 0, 1);
    }

    @Says("differ least (signs left out), together; of several the least.")
    private static void promise20_signsAreLeftOutAndTheLeastIsTaken() {
        ThirstLead x = guessed(2);
        x.mark(0, 0, 10);
        x.mark(0, 1, 16);
        // 10 and 11 differ by 0 and 5, 15 and 16 by 5 and 0.
        thirsted("alike", x, 10, 5);
        x.mark(0, 0, 25);
        x.mark(0, 1, 1);
        // Every THIRST of 0 .. 25 differs by 25 in all; with signs they would cancel one another out.
        thirsted("alike with signs", x, 0, 25);
    }

    @Says({"its THIRST behind k HOURS", "(All this is only thought, from now on, z as it is"})
    private static void promise20_ledAsInHours() {
        ThirstLead x = guessed(2);
        x.set(0, 3, 1);
        x.water(1, 99);
        x.mark(0, 0, 50);
        x.mark(0, 1, 1);
        thirsted("led to a well", x, 50, 0);
        x.water(1, 0);
        x.water(0, 99);
        x.mark(0, 1, 51);
        thirsted("led away from a well", x, 50, 0);
        ThirstLead y = Bands.rich(10);
        y.set(4, 1, 15);
        y.sheet(0, 1, 9);
        for (int k = 0; k < 9; k++) {
            y.mark(0, k, y.behind(k, 3 + 4));
        }
        Due.is("by its own HOURS, THIRST", y.thirsted(0, 4, 0), 15);
        Due.is("by its own HOURS, differences", y.thirsted(0, 4, 1), 0);
    }

    @Says("its THIRST behind k HOURS")
    private static void promise20_theThirstOfWhoDiesStays() {
        ThirstLead x = Bands.steady(10);
        x.walker(0, 0, 0);
        x.sheet(0, 1, 3);
        x.mark(0, 0, NONE);
        x.mark(0, 1, NONE);
        x.mark(0, 2, 70);
        // 60 is 70 and DEAD behind an HOUR, and 70 still behind two.
        thirsted("dead on the way", x, 60, 0);
        ThirstLead dead = allDead();
        dead.sheet(0, 0, 3);
        for (int i = 0; i < 3; i++) {
            dead.mark(0, i, 30);
        }
        thirsted("a dead one", dead, 30, 0);
    }

    @Says("without the bound of THE HOUR: nothing changes.)")
    private static void promise20_behindTheLastHour() {
        ThirstLead x = slowAndLate(0);
        x.rule(3, 99);
        x.sheet(0, 0, 3);
        for (int i = 0; i < 3; i++) {
            x.mark(0, i, 30 + i);
        }
        thirsted("three HOURS", x, 30, 0);
        onlyThought("thirsted(0, 1, 0)", y -> y.thirsted(0, 1, 0));
        onlyThought("thirsted(1, 9, 1)", y -> y.thirsted(1, 9, 1));
    }

    // ---- 21, fee

    @Says({"What fee gives.", "of fee d DEATHS, l LOST (what fee gives is told by fee(); without a TEXT: DEATHS)"})
    private static void promise21_withoutATextDeaths() {
        Due.is("a new one", new ThirstLead().fee(), 0);
        ThirstLead x = allDead();
        Due.textOf(x, "fine 7");
        Due.is("one is DEAD, no TEXT of fee", x.fee(), 1);
        Due.textOf(x, "fee");
        Due.is("a FAULT is no TEXT", x.fee(), 1);
        Due.textOf(x, "fee 0-2147*9999*100");
        Due.is("below 0", x.fee(), -2146785300);
        onlyThought("fee()", ThirstLead::fee);
    }

    // ---- 22, fine

    @Says("What fine gives for a WALKER. BAD.")
    private static void promise22_badWalkers() {
        int[] bad = {-1, 4, LEAST, MOST};
        for (int walker : bad) {
            refused("fine(" + walker + ")", x -> x.fine(walker), BAD);
        }
        Due.is("no WALKERS", new ThirstLead().fine(0), BAD);
        Due.is("no eleventh", Bands.rich(10).fine(10), BAD);
    }

    @Says("of fine s SKIN, l LED (what fine gives for a WALKER is told by fine(); without a TEXT: LED)")
    private static void promise22_withoutATextLed() {
        ThirstLead x = Bands.one(0, 1, 9);
        x.walker(0, 5, 0);
        Due.is("not yet", x.fine(0), 0);
        x.hours(100);
        Due.is("LED 100 times", x.fine(0), 100);
        Due.is("never LED", x.fine(1), 0);
        Due.textOf(x, "fine s*1000+l");
        Due.is("by its TEXT", x.fine(0), 9100);
        Due.is("by its TEXT, the other", x.fine(1), 5000);
        onlyThought("fine(9)", y -> y.fine(9));
        onlyThought("fine(2), which is DEAD", y -> y.fine(2));
    }
}
