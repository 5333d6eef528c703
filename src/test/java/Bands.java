/** Bands that tests of single sentences start from. */
final class Bands {
    private Bands() {
    }

    /** What a draw makes of z. */
    static int next(int z) {
        return z * 1103515245 + 12345;
    }

    /** What a draw gives, once z is this. */
    static int given(int z) {
        return z >>> 8;
    }

    /** A WALKER thirsts so many more in each HOUR, whatever the HEAT. */
    static ThirstLead steady(int more) {
        ThirstLead x = new ThirstLead();
        Due.textOf(x, "thirst " + more);
        return x;
    }

    static ThirstLead oneOfEach(int skin, int knows) {
        ThirstLead x = new ThirstLead();
        for (int kind = 0; kind < 6; kind++) {
            x.walker(kind, skin, knows);
        }
        return x;
    }

    /** Nobody has walked by THE HOUR that is told. */
    static ThirstLead atHour(int hour) {
        ThirstLead x = new ThirstLead();
        passTo(x, hour);
        return x;
    }

    static void passTo(ThirstLead x, int hour) {
        for (int left = hour - x.count(1); left > 0; left -= 100) {
            x.hours(Math.min(100, left));
        }
        Due.is("THE HOUR to which they passed", x.count(1), hour);
    }

    /** One WALKER in cell 0 that stays there, with so much THIRST and SKIN; it thirsts no more. */
    static ThirstLead one(int kind, int thirst, int skin) {
        ThirstLead x = steady(0);
        x.walker(kind, skin, 0);
        x.set(0, 1, thirst);
        return x;
    }

    /** Something of all that an object can hold, with so many WALKERS, the third of which is DEAD. */
    static ThirstLead rich(int walkers) {
        ThirstLead x = imageOf(walkers);
        for (int v : hoursTold(imageOf(walkers), 2)) {
            x.tell(v);
        }
        x.water(7, 33);
        x.rule(1, 3);
        x.hours(2);
        Due.textOf(x, "fee d+1");
        x.sheet(0, 0, 5);
        x.sheet(1, 1, 5);
        x.sheet(2, 0, 0);
        for (int i = 0; i < 5; i++) {
            x.mark(0, i, 7 * i - 9);
            x.mark(1, i, i == 2 ? ThirstLead.NONE : 1000 * i);
        }
        x.lay(0, 1, 0);
        x.lay(1, 2, 1);
        x.lay(2, 3, 123456);
        x.lay(3, 2, 0);
        Due.feedText(x, "fee 3*d+4");
        return x;
    }

    private static ThirstLead imageOf(int walkers) {
        ThirstLead x = new ThirstLead();
        for (int i = 0; i < walkers; i++) {
            x.walker(i % 6, 3 * i, 5 * i % 25);
            x.set(i, 1, 2 * i);
        }
        x.set(2, 1, 99);
        x.set(2, 2, 0);
        x.water(3, 44);
        x.water(23, 5);
        x.rule(2, 30);
        x.rule(3, 70);
        x.hours(3);
        Due.textOf(x, "thirst h+2");
        Due.textOf(x, "fee d*10+l");
        Due.textOf(x, "fine s*100+l");
        x.keep();
        return x;
    }

    /** Of so many HOURS the cell and the THIRST of those that LIVE; the object goes on by them. */
    static int[] hoursTold(ThirstLead x, int n) {
        int[] told = new int[2 * n];
        for (int i = 0; i < n; i++) {
            x.hours(1);
            told[2 * i] = x.band(0);
            told[2 * i + 1] = x.band(5);
        }
        return told;
    }
}
