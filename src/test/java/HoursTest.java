/** Promises 11 and 12: hours, step by step, and what is told of the band. */
public final class HoursTest {
    private static final int BAD = ThirstLead.BAD;

    public static void main(String[] args) {
        nobody();
        leading();
        mirages();
        drinkingAtAWell();
        thirstHeatAndSips();
        dying();
        spilling();
        theLastHour();
        wrong();
        Due.end("HoursTest");
    }

    private static int next(int z) {
        return z * 1103515245 + 12345;
    }

    /** A band whose walkers thirst so many more in each hour, whatever the heat. */
    private static ThirstLead steady(int more) {
        ThirstLead x = new ThirstLead();
        Due.textOf(x, "thirst " + more);
        return x;
    }

    private static void nobody() {
        ThirstLead x = new ThirstLead();
        x.water(0, 5);
        x.rule(2, 100);
        Due.is("hours(3) of nobody", x.hours(3), 0);
        int z = next(next(next(1)));
        Due.is("one draw an hour", x.count(9), z);
        Due.is("heat", x.count(2), (z >>> 8) % 10);
        Due.is("the hour", x.count(1), 3);
        Due.is("the band stays", x.band(0), 0);
        Due.is("nothing lost", x.band(3), 0);
        Due.is("nothing drunk", x.water(0, 0), 5);
    }

    private static void leading() {
        ThirstLead x = steady(0);
        x.walker(0, 0, 2);
        x.walker(0, 0, 22);
        x.walker(5, 0, 22);
        Due.is("of like ones the least", x.band(1), 0);
        x.hours(1);
        Due.is("led to 1", x.band(0), 1);
        Due.is("led", x.told(0, 4), 1);
        Due.is("two draws an hour", x.count(9), next(next(1)));
        Due.is("heat by the first", x.count(2), (next(1) >>> 8) % 10);
        // The camel thirsts 1 more an hour, whatever the text, and so leads from now on.
        Due.is("the camel leads", x.band(1), 2);
        x.set(1, 1, 9);
        Due.is("the thirstiest leads", x.band(1), 1);
        x.hours(2);
        Due.is("led back", x.band(0), 23);
        Due.is("led twice", x.told(1, 4), 2);
        Due.is("led once", x.told(0, 4), 1);
        x.rule(4, 22);
        x.hours(1);
        Due.is("stays where the leader would go", x.band(0), 22);
        Due.is("thirst together", x.band(5), 0 + 9 + 4);
        Due.is("the living", x.band(4), 7);
    }

    private static void mirages() {
        ThirstLead x = steady(0);
        x.walker(0, 0, 5);
        x.rule(2, 100);
        x.hours(2);
        Due.is("the other way", x.band(0), 22);
        Due.is("lost", x.band(3), 2);
        x.set(0, 3, 22);
        x.hours(1);
        Due.is("stays", x.band(0), 22);
        Due.is("lost all the same", x.band(3), 3);
        x.rule(2, 0);
        x.set(0, 3, 24);
        x.hours(1);
        Due.is("no mirage", x.band(0), 23);
        Due.is("not lost", x.band(3), 3);
        byLot();
        justBelow();
    }

    private static void justBelow() {
        for (int seed = 0; seed < 20; seed++) {
            int rest = (next(next(seed)) >>> 8) % 100;
            ThirstLead x = steady(0);
            x.walker(5, 0, 0);
            x.seed(seed);
            x.rule(2, rest);
            x.hours(1);
            Due.is("the rest is not below", x.band(3), 0);
            x.seed(seed);
            x.rule(2, rest + 1);
            x.hours(1);
            Due.is("the rest is below", x.band(3), 1);
        }
    }

    private static void byLot() {
        ThirstLead x = steady(0);
        x.walker(5, 0, 0);
        x.rule(2, 50);
        x.rule(3, 99);
        int z = 1;
        int cell = 0;
        int lost = 0;
        for (int i = 0; i < 60; i++) {
            z = next(next(z));
            boolean mirage = (z >>> 8) % 100 < 50;
            lost += mirage ? 1 : 0;
            cell = (cell + (mirage ? 23 : 1)) % 24;
            x.hours(1);
            Due.is("cell by lot", x.band(0), cell);
            Due.is("lost by lot", x.band(3), lost);
        }
    }

    private static void drinkingAtAWell() {
        ThirstLead x = steady(0);
        x.walker(0, 28, 0);
        x.walker(2, 0, 0);
        x.walker(1, 9, 0);
        x.set(0, 1, 11);
        x.set(1, 1, 7);
        x.set(2, 1, 19);
        x.water(0, 40);
        x.hours(1);
        // 3 cups and 2 to fill for the first, 2 and 30 for the next; 3 are left for the last, which thirsts 2 more.
        Due.is("water", x.water(0, 0), 0);
        Due.is("thirst 0", x.told(0, 1), 0);
        Due.is("skin 0", x.told(0, 2), 30);
        Due.is("thirst 1", x.told(1, 1), 0);
        Due.is("skin 1", x.told(1, 2), 30);
        Due.is("thirst 2", x.told(2, 1), 19 - 3 * 4 + 2);
        Due.is("skin 2", x.told(2, 2), 9);
        x.water(0, 99);
        x.set(0, 2, 29);
        x.set(0, 1, 1);
        x.set(2, 1, 0);
        x.hours(1);
        Due.is("water that is left", x.water(0, 0), 99 - 1 - 1 - 21);
    }

    private static void thirstHeatAndSips() {
        ThirstLead x = new ThirstLead();
        x.walker(0, 0, 24);
        x.hours(1);
        int heat = (next(1) >>> 8) % 10;
        Due.is("heat and 1", x.told(0, 1), heat + 1);
        x = steady(5);
        x.walker(0, 9, 24);
        x.set(0, 1, 14);
        x.hours(1);
        Due.is("19: no sip", x.told(0, 1), 19);
        Due.is("skin as it was", x.told(0, 2), 9);
        x.set(0, 1, 15);
        x.hours(1);
        Due.is("20: two cups", x.told(0, 1), 10);
        Due.is("skin less 2", x.told(0, 2), 7);
        x.rule(1, 9);
        x.set(0, 1, 17);
        x.hours(1);
        Due.is("as many as there are, 0 at least", x.told(0, 1), 0);
        Due.is("skin is used up", x.told(0, 2), 0);
        x.set(0, 1, 20);
        x.hours(1);
        Due.is("without a skin", x.told(0, 1), 25);
        x = steady(5);
        x.rule(1, 9);
        x.walker(5, 30, 24);
        x.set(0, 1, 20);
        x.hours(1);
        Due.is("cups behind the thirst's end", x.told(0, 2), 21);
        x = steady(40);
        x.rule(3, 99);
        x.walker(0, 1, 24);
        x.set(0, 1, 80);
        x.hours(1);
        Due.is("99 at most, then a cup", x.told(0, 1), 94);
    }

    private static void dying() {
        ThirstLead x = steady(0);
        x.rule(1, 1);
        x.walker(0, 20, 24);
        x.walker(0, 3, 24);
        x.walker(0, 20, 24);
        x.walker(0, 0, 24);
        x.set(0, 1, 65);
        x.set(1, 1, 40);
        x.set(2, 1, 64);
        x.set(3, 1, 59);
        // 65 and 64 sip to 60 and 59: only the first is dead; its 19 cups go to the thirstiest that is left.
        Due.is("one is dead", x.hours(1), 1);
        Due.is("deaths", x.band(2), 1);
        Due.is("lives no more", x.told(0, 5), 0);
        Due.is("its skin", x.told(0, 2), 0);
        Due.is("its thirst stays", x.told(0, 1), 60);
        Due.is("the leader of those left has it", x.told(2, 2), 30);
        Due.is("the other one", x.told(3, 2), 0);
        Due.is("the living", x.band(4), 14);
        Due.is("thirst of the living", x.band(5), 35 + 59 + 59);
        Due.is("led by the first", x.told(0, 4), 1);
        x.set(0, 1, 0);
        x.set(0, 2, 12);
        x.rule(3, 30);
        Due.is("the others die", x.hours(1), 3);
        Due.is("the dead stay dead", x.told(0, 5), 0);
        Due.is("a skin laid on the dead stays", x.told(0, 2), 12);
        Due.is("no leader", x.band(1), ThirstLead.NONE);
        Due.is("nobody lives", x.band(4), 0);
        Due.is("deaths in all", x.band(2), 4);
        Due.is("hours of the dead", x.hours(5), 0);
    }

    private static void spilling() {
        ThirstLead x = steady(0);
        x.walker(2, 30, 24);
        x.walker(2, 30, 24);
        x.rule(3, 20);
        x.rule(1, 1);
        x.set(0, 1, 99);
        x.set(1, 1, 99);
        Due.is("both", x.hours(1), 2);
        Due.is("spilt", x.told(0, 2) + x.told(1, 2), 0);
        x = steady(0);
        x.walker(0, 0, 24);
        x.walker(0, 12, 24);
        x.walker(0, 7, 24);
        x.walker(0, 0, 24);
        x.rule(3, 40);
        x.rule(1, 2);
        x.set(1, 1, 90);
        x.set(2, 1, 90);
        x.set(3, 1, 39);
        x.hours(1);
        Due.is("together", x.told(3, 2), 10 + 5);
    }

    private static void theLastHour() {
        ThirstLead x = new ThirstLead();
        for (int i = 0; i < 99; i++) {
            x.hours(100);
        }
        Due.is("9900", x.count(1), 9900);
        x.hours(98);
        x.walker(5, 0, 0);
        Due.is("one hour of three", x.hours(3), 0);
        Due.is("9999", x.count(1), 9999);
        Due.is("one step", x.band(0), 1);
        int z = x.count(9);
        Due.is("no more", x.hours(100), 0);
        Due.is("no draw", x.count(9), z);
        Due.is("thoughts go on", x.behind(5, 0), 6);
        Due.is("told hours do not", x.keep(), 1);
        Due.is("no hours are due", x.check(30), 0);
        x.tell(0);
        Due.is("one too many", x.check(30), 1);
        x.turns(0, 4);
        x.rule(0, 5);
        Due.is("a boy at an odd hour", x.told(0, 6), 4);
    }

    private static void wrong() {
        ThirstLead x = new ThirstLead();
        Due.is("hours(0)", x.hours(0), BAD);
        Due.is("hours(-1)", x.hours(-1), BAD);
        Due.is("hours(101)", x.hours(101), BAD);
        Due.is("no hour", x.count(1), 0);
        Due.is("hours(100)", x.hours(100), 0);
        Due.is("a hundred hours", x.count(1), 100);
        Due.is("band(-1)", x.band(-1), BAD);
        Due.is("band(7)", x.band(7), BAD);
    }
}
