/** A band on a ring of desert, led each hour by whoever thirsts most. */
public final class ThirstLead {
    public static final int BAD = -1000000001, NO = -1000000002, FULL = -1000000003, NONE = -1000000005, NOTHING = -1000000011, KIND = -1000000012, INDEX = -1000000013, SIZE = -1000000014;

    private static final int CELLS = 24, KNOWS_NONE = 24, MOST_WATER = 99;
    private static final int WALKERS = 10, MOST_THIRST = 99, MOST_SKIN = 30, NOBODY = -1;
    private static final int WALKER = 0, FAT = 1, THIN = 2, GUIDE = 3, BOY = 4, CAMEL = 5;
    private static final int LAST_HOUR = 9999, SIPS_FROM = 20, MOST_THIRSTS = 40;
    private static final int LASTS_AT_MOST = 200, SALT = 30, GUESSES_APART = 5, LAST_GUESS = 95;

    private static final int[] SET_MOST = {MOST_THIRST, MOST_SKIN, KNOWS_NONE};
    private static final int[] RULE_LEAST = {0, 1, 0, 20, 0};
    private static final int[] RULE_MOST = {9, 9, 100, 99, CELLS - 1};

    private static final int TEXTS = 14, TAPE = 96, KEYS = 3, BY_THIRST = 0, BY_FEE = 1, BY_FINE = 2;
    private static final int FAULT_AT_START = -100, DIGITS_AT_MOST = 4, OPEN_AT_MOST = 8;

    private static final int SHEETS = 4, PLACES = 24, MISSING = -1, SHORTS = 0, FLOATS = 1, MOST_FLOAT = 99999;
    // The document marks NO NUMBER by NONE, which no place that is a number can be.
    private static final int NO_NUMBER = NONE;
    private static final int SLOTS = 5, EMPTY = 0, HOLDS_WALKER = 1, HOLDS_SHEET = 2, HOLDS_NUMBER = 3;
    private static final int WAITING = 60, HOURS_TOLD = 30;

    private final Desert now = new Desert();
    private final Desert image = new Desert();
    private final Desert thought = new Desert();
    private final Best best = new Best();
    private final Laws laws = new Laws();
    private final Reader reader = new Reader();
    private final Sheet[] sheets = new Sheet[SHEETS];
    private final Slot[] slots = new Slot[SLOTS];
    private final int[] waiting = new int[WAITING];
    private int waits = 0;
    private boolean imageKept = false;

    public ThirstLead() {
        for (int i = 0; i < SHEETS; i++) {
            sheets[i] = new Sheet();
        }
        for (int i = 0; i < SLOTS; i++) {
            slots[i] = new Slot();
        }
    }

    // ---- walkers, cells

    public int walker(int kind, int skin, int knows) {
        if (!isKind(kind) || !within(skin, 0, MOST_SKIN) || !within(knows, 0, KNOWS_NONE)) {
            return BAD;
        }
        return now.join(kind, skin, knows);
    }

    public int told(int walker, int what) {
        if (!now.has(walker)) {
            return BAD;
        }
        Walker w = now.walkers[walker];
        switch (what) {
            case 0: return w.kind;
            case 1: return w.thirst;
            case 2: return w.skin;
            case 3: return w.knows;
            case 4: return w.led;
            case 5: return w.lives ? 1 : 0;
            case 6: return now.thirsts(w, laws);
            case 7: return w.slakes();
            case 8: return now.goes(w);
            case 9: return w.worth();
            default: return BAD;
        }
    }

    public int as(int walker, int kind) {
        if (!now.has(walker) || !isKind(kind)) {
            return BAD;
        }
        Walker w = now.walkers[walker];
        return w.isOf(kind) ? w.skin : KIND;
    }

    public int turns(int walker, int kind) {
        if (!now.has(walker) || !isKind(kind)) {
            return BAD;
        }
        Walker w = now.walkers[walker];
        int was = w.kind;
        w.kind = kind;
        return was;
    }

    public int set(int walker, int what, int v) {
        if (!now.has(walker) || !within(what, 1, SET_MOST.length) || !within(v, 0, SET_MOST[what - 1])) {
            return BAD;
        }
        Walker w = now.walkers[walker];
        int was;
        if (what == 1) {
            was = w.thirst;
            w.thirst = v;
        } else if (what == 2) {
            was = w.skin;
            w.skin = v;
        } else {
            was = w.knows;
            w.knows = v;
        }
        return was;
    }

    public int water(int cell, int v) {
        if (!within(cell, 0, CELLS - 1) || !within(v, 0, MOST_WATER)) {
            return BAD;
        }
        int was = now.water[cell];
        now.water[cell] = v;
        return was;
    }

    public int rule(int what, int v) {
        if (!within(what, 0, RULE_MOST.length - 1) || !within(v, RULE_LEAST[what], RULE_MOST[what])) {
            return BAD;
        }
        return now.ruleBecomes(what, v);
    }

    public int deal(int n) {
        if (!within(n, 1, WALKERS)) {
            return BAD;
        }
        int came = Math.min(n, WALKERS - now.size);
        for (int i = 0; i < came; i++) {
            now.joinByLot();
        }
        return came;
    }

    public int seed(int v) {
        int was = now.z;
        now.z = v;
        return was;
    }

    // ---- hours

    public int hours(int n) {
        if (!within(n, 1, 100)) {
            return BAD;
        }
        int before = now.deaths;
        passHours(now, Math.min(n, LAST_HOUR - now.hour));
        return now.deaths - before;
    }

    public int band(int what) {
        switch (what) {
            case 0: return now.cell;
            case 1: return now.leader() == NOBODY ? NONE : now.leader();
            case 2: return now.deaths;
            case 3: return now.lost;
            case 4: return now.living();
            case 5: return now.thirstTogether();
            case 6: return now.wells();
            default: return BAD;
        }
    }

    // ---- what will be

    public int behind(int n, int what) {
        if (!within(n, 0, 100) || !within(what, 0, 2 + now.size)) {
            return BAD;
        }
        thought.becomes(now);
        passHours(thought, n);
        switch (what) {
            case 0: return thought.cell;
            case 1: return thought.deaths;
            case 2: return thought.living();
            default: return thought.thirstOf(what - 3);
        }
    }

    public int lasts() {
        thought.becomes(now);
        return firstDeath(LASTS_AT_MOST);
    }

    public int salted(int n, int what) {
        if (!within(n, 1, 60) || !within(what, 0, 1)) {
            return BAD;
        }
        best.starts();
        for (int i = 0; i < now.size; i++) {
            if (now.walkers[i].lives) {
                thought.becomes(now);
                thought.walkers[i].thirst = Math.min(MOST_THIRST, now.walkers[i].thirst + SALT);
                passHours(thought, n);
                best.offer(i, thought.deaths);
            }
        }
        return best.chosen(what);
    }

    public int tells(int walker, int n, int what) {
        if (!now.has(walker) || !within(n, 1, 40) || !within(what, 0, 1)) {
            return BAD;
        }
        best.starts();
        for (int cell = 0; cell < CELLS; cell++) {
            thought.becomes(now);
            thought.walkers[walker].knows = cell;
            passHours(thought, n);
            best.offer(cell, thought.deaths);
        }
        return best.chosen(what);
    }

    public int custom(int n) {
        if (!within(n, 1, 60)) {
            return BAD;
        }
        thought.becomes(now);
        passHours(thought, n);
        int led = thought.deaths;
        thought.becomes(now);
        for (int i = 0; i < n; i++) {
            thought.passHour(laws, false);
        }
        return led - thought.deaths;
    }

    public int enough(int n) {
        if (!within(n, 1, 40)) {
            return BAD;
        }
        for (int cups = 0; cups <= MOST_SKIN; cups++) {
            thought.becomes(now);
            thought.shareOut(cups);
            if (firstDeath(n) == NONE) {
                return cups;
            }
        }
        return NONE;
    }

    public int shown(int n) {
        if (!within(n, 1, 100)) {
            return BAD;
        }
        thought.becomes(now);
        int cells = 0;
        for (int i = 0; i < n; i++) {
            thought.passHour(laws, true);
            cells |= 1 << thought.cell;
        }
        return cells;
    }

    public int thirsted(int sheet, int walker, int what) {
        if (!isSheet(sheet) || !now.has(walker) || !within(what, 0, 1)) {
            return BAD;
        }
        if (sheets[sheet].sort == MISSING) {
            return NOTHING;
        }
        best.starts();
        for (int guess = 0; guess <= LAST_GUESS; guess += GUESSES_APART) {
            best.offer(guess, differencesFrom(sheets[sheet], walker, guess));
        }
        return best.chosen(what);
    }

    public int fee() {
        int law = laws.latest(BY_FEE, now.texts);
        return law == NONE ? now.deaths : laws.gives(law, now.deaths, now.lost, 0);
    }

    public int fine(int walker) {
        if (!now.has(walker)) {
            return BAD;
        }
        Walker w = now.walkers[walker];
        int law = laws.latest(BY_FINE, now.texts);
        return law == NONE ? w.led : laws.gives(law, w.skin, w.led, 0);
    }

    // ---- texts

    public int feed(int a, int b, int c) {
        if (reader.length + 12 > TAPE) {
            return FULL;
        }
        reader.takeBytes(a);
        reader.takeBytes(b);
        reader.takeBytes(c);
        return reader.length;
    }

    public int trim(int n) {
        if (!within(n, 0, reader.length)) {
            return BAD;
        }
        reader.length = n;
        return n;
    }

    public int text() {
        boolean good = reader.readText();
        reader.length = 0;
        if (!good) {
            return FAULT_AT_START - reader.place;
        }
        if (now.texts >= TEXTS) {
            return FULL;
        }
        laws.laws[now.texts].becomes(reader.read);
        now.texts++;
        return now.texts - 1;
    }

    public int textTold(int text, int what) {
        if (!within(text, 0, now.texts - 1) || !within(what, 0, 1)) {
            return BAD;
        }
        Law law = laws.laws[text];
        return what == 0 ? law.key : law.operands;
    }

    public int why(int key) {
        return within(key, 0, KEYS - 1) ? laws.latest(key, now.texts) : BAD;
    }

    // ---- sheets, slots

    public int sheet(int sheet, int sort, int n) {
        if (!isSheet(sheet) || !within(sort, MISSING, FLOATS) || (sort != MISSING && n > PLACES)) {
            return BAD;
        }
        if (sort != MISSING && n < 0) {
            return SIZE;
        }
        int places = sort == MISSING ? 0 : n;
        sheets[sheet].starts(sort, places);
        return places;
    }

    public int mark(int sheet, int place, int v) {
        if (!isSheet(sheet)) {
            return BAD;
        }
        Sheet s = sheets[sheet];
        if (s.sort == MISSING) {
            return NOTHING;
        }
        if (!s.has(place)) {
            return INDEX;
        }
        if (s.sort == SHORTS) {
            if (v == NO_NUMBER) {
                return KIND;
            }
            s.places[place] = (short) v;
            return 1;
        }
        if (v != NO_NUMBER && !within(v, -MOST_FLOAT, MOST_FLOAT)) {
            return BAD;
        }
        s.places[place] = v;
        return 1;
    }

    public int pour(int sheet) {
        if (!isSheet(sheet)) {
            return BAD;
        }
        Sheet s = sheets[sheet];
        if (s.sort == MISSING) {
            return NOTHING;
        }
        int otherwise = 0;
        for (int i = 0; i < CELLS; i++) {
            if (s.hasNumber(i)) {
                int cups = held(s.places[i], 0, MOST_WATER);
                if (now.water[i] != cups) {
                    otherwise++;
                }
                now.water[i] = cups;
            }
        }
        return otherwise;
    }

    public int reads(int sheet) {
        if (!isSheet(sheet)) {
            return BAD;
        }
        Sheet s = sheets[sheet];
        if (s.sort == MISSING) {
            return NOTHING;
        }
        for (int i = 0; i < PLACES; i++) {
            if (s.hasNumber(i) && (!now.has(i) || s.places[i] != now.thirstOf(i))) {
                return i;
            }
        }
        return NONE;
    }

    public int copy(int from, int place, int to, int at, int many) {
        if (!isSheet(from) || !isSheet(to)) {
            return BAD;
        }
        Sheet source = sheets[from];
        Sheet target = sheets[to];
        if (source.sort == MISSING || target.sort == MISSING) {
            return NOTHING;
        }
        if (source.sort != target.sort) {
            return KIND;
        }
        if (!source.hasRow(place, many) || !target.hasRow(at, many)) {
            return INDEX;
        }
        System.arraycopy(source.places, place, target.places, at, many);
        return many;
    }

    public int lay(int slot, int thing, int k) {
        if (!isSlot(slot) || !within(thing, EMPTY, HOLDS_NUMBER)) {
            return BAD;
        }
        if ((thing == HOLDS_WALKER && !now.has(k)) || (thing == HOLDS_SHEET && !isSheet(k))) {
            return BAD;
        }
        if (thing == HOLDS_SHEET && sheets[k].sort == MISSING) {
            return NOTHING;
        }
        Slot s = slots[slot];
        int was = s.thing;
        s.thing = thing;
        if (thing == HOLDS_WALKER) {
            s.walker.becomes(now.walkers[k]);
        } else if (thing == HOLDS_SHEET) {
            s.sheet.becomes(sheets[k]);
        } else if (thing == HOLDS_NUMBER) {
            s.number = k;
        }
        return was;
    }

    public int ask(int slot, int kind) {
        if (!isSlot(slot) || !isKind(kind)) {
            return BAD;
        }
        Slot s = slots[slot];
        if (s.thing == EMPTY) {
            return NOTHING;
        }
        return s.thing == HOLDS_WALKER && s.walker.isOf(kind) ? s.walker.worth() : KIND;
    }

    public int item(int slot, int place) {
        if (!isSlot(slot)) {
            return BAD;
        }
        Slot s = slots[slot];
        if (s.thing == EMPTY) {
            return NOTHING;
        }
        if (s.thing != HOLDS_SHEET) {
            return KIND;
        }
        if (!s.sheet.has(place)) {
            return INDEX;
        }
        return s.sheet.hasNumber(place) ? s.sheet.places[place] : KIND;
    }

    public int rest(int slot, int n) {
        if (!isSlot(slot)) {
            return BAD;
        }
        Slot s = slots[slot];
        if (s.thing == EMPTY) {
            return NOTHING;
        }
        if (s.thing != HOLDS_NUMBER) {
            return KIND;
        }
        return n == 0 ? NO : s.number % n;
    }

    // ---- rows, images

    public int tell(int v) {
        if (waits >= WAITING) {
            return FULL;
        }
        waiting[waits] = v;
        waits++;
        return waits;
    }

    public int check(int n) {
        int many = waits;
        waits = 0;
        if (!within(n, 1, HOURS_TOLD)) {
            return BAD;
        }
        if (!imageKept) {
            return NO;
        }
        thought.becomes(image);
        int due = Math.min(n, LAST_HOUR - image.hour);
        for (int i = 0; i < due; i++) {
            thought.passHour(laws, true);
            if (!waitedAt(2 * i, many, thought.cell)) {
                return 1 + 2 * i;
            }
            if (!waitedAt(2 * i + 1, many, thought.thirstTogether())) {
                return 2 + 2 * i;
            }
        }
        return many > 2 * due ? 1 + 2 * due : 0;
    }

    public int keep() {
        image.becomes(now);
        imageKept = true;
        return now.size;
    }

    public int back() {
        if (!imageKept) {
            return NO;
        }
        now.becomes(image);
        return now.size;
    }

    public int count(int what) {
        switch (what) {
            case 0: return now.size;
            case 1: return now.hour;
            case 2: return now.heat;
            case 3: return now.sip;
            case 4: return now.mirage;
            case 5: return now.deadly;
            case 6: return now.texts;
            case 7: return waits;
            case 8: return reader.length;
            case 9: return now.z;
            default: return BAD;
        }
    }

    private static boolean within(int v, int least, int most) {
        return v >= least && v <= most;
    }

    private static int held(int v, int least, int most) {
        return Math.max(least, Math.min(most, v));
    }

    private static boolean isKind(int kind) {
        return within(kind, WALKER, CAMEL);
    }

    private static boolean isSheet(int sheet) {
        return within(sheet, 0, SHEETS - 1);
    }

    private static boolean isSlot(int slot) {
        return within(slot, 0, SLOTS - 1);
    }

    private void passHours(Desert desert, int n) {
        for (int i = 0; i < n; i++) {
            desert.passHour(laws, true);
        }
    }

    /** Behind how many HOURS of the thought more are DEAD than now, or NONE. */
    private int firstDeath(int most) {
        for (int n = 1; n <= most; n++) {
            thought.passHour(laws, true);
            if (thought.deaths > now.deaths) {
                return n;
            }
        }
        return NONE;
    }

    private int differencesFrom(Sheet sheet, int walker, int thirst) {
        thought.becomes(now);
        thought.walkers[walker].thirst = thirst;
        int differences = 0;
        for (int k = 0; k < sheet.size; k++) {
            if (k > 0) {
                thought.passHour(laws, true);
            }
            if (sheet.hasNumber(k)) {
                differences += Math.abs(thought.thirstOf(walker) - sheet.places[k]);
            }
        }
        return differences;
    }

    private boolean waitedAt(int place, int many, int v) {
        return place >= 0 && place < many && place < WAITING && waiting[place] == v;
    }

    /** One of the band, of a KIND that may change. */
    private static final class Walker {
        int kind = WALKER;
        int thirst = 0;
        int skin = 0;
        int knows = KNOWS_NONE;
        int led = 0;
        boolean lives = true;

        void starts(int newKind, int newSkin, int newKnows) {
            kind = newKind;
            thirst = 0;
            skin = newSkin;
            knows = newKnows;
            led = 0;
            lives = true;
        }

        void becomes(Walker other) {
            kind = other.kind;
            thirst = other.thirst;
            skin = other.skin;
            knows = other.knows;
            led = other.led;
            lives = other.lives;
        }

        boolean isOf(int other) {
            return other == kind || other == WALKER
                || (kind == GUIDE && other == FAT) || (kind == BOY && other == THIN);
        }

        int slakes() {
            switch (kind) {
                case FAT: return 4;
                case GUIDE: return 4;
                case THIN: return 6;
                case BOY: return 7;
                case CAMEL: return 9;
                default: return 5;
            }
        }

        int worth() {
            switch (kind) {
                case FAT: return skin + 8;
                case GUIDE: return 2 * (skin + 8);
                case THIN: return 99 - skin;
                case BOY: return 99 - skin - 3;
                case CAMEL: return 4;
                default: return skin;
            }
        }

        void drinkCup() {
            thirst = Math.max(0, thirst - slakes());
        }

        /** Drinks its fill and fills its skin: what is left of the cups. */
        int drinkFrom(int cups) {
            int left = cups;
            for (int i = 0; i < MOST_WATER && left > 0 && thirst > 0; i++) {
                drinkCup();
                left--;
            }
            int filled = Math.max(0, Math.min(left, MOST_SKIN - skin));
            skin += filled;
            return left - filled;
        }

        void thirstBy(int more, int sip) {
            thirst = Math.min(MOST_THIRST, thirst + more);
            if (thirst >= SIPS_FROM) {
                int cups = Math.min(sip, skin);
                for (int i = 0; i < cups; i++) {
                    drinkCup();
                }
                skin -= cups;
            }
        }
    }

    /** All that an image keeps: the ring, the band, its rules, and how many texts are told. */
    private static final class Desert {
        final int[] water = new int[CELLS];
        final Walker[] walkers = new Walker[WALKERS];
        int size = 0;
        int cell = 0;
        int heat = 3;
        int sip = 2;
        int mirage = 0;
        int deadly = 60;
        int deaths = 0;
        int lost = 0;
        int hour = 0;
        int z = 1;
        // Texts only come behind those of the image, so their number tells which they are.
        int texts = 0;

        Desert() {
            for (int i = 0; i < WALKERS; i++) {
                walkers[i] = new Walker();
            }
        }

        void becomes(Desert other) {
            System.arraycopy(other.water, 0, water, 0, CELLS);
            for (int i = 0; i < other.size && i < WALKERS; i++) {
                walkers[i].becomes(other.walkers[i]);
            }
            size = other.size;
            cell = other.cell;
            heat = other.heat;
            sip = other.sip;
            mirage = other.mirage;
            deadly = other.deadly;
            deaths = other.deaths;
            lost = other.lost;
            hour = other.hour;
            z = other.z;
            texts = other.texts;
        }

        boolean has(int walker) {
            return walker >= 0 && walker < size && walker < WALKERS;
        }

        int thirstOf(int walker) {
            return has(walker) ? walkers[walker].thirst : BAD;
        }

        /** One more WALKER: its number, or FULL. */
        int join(int kind, int skin, int knows) {
            if (size >= WALKERS) {
                return FULL;
            }
            walkers[size].starts(kind, skin, knows);
            size++;
            return size - 1;
        }

        void joinByLot() {
            int kind = draw() % 6;
            int skin = draw() % 31;
            int knows = draw() % 25;
            join(kind, skin, knows);
        }

        int draw() {
            z = z * 1103515245 + 12345;
            return z >>> 8;
        }

        int ruleBecomes(int what, int v) {
            int was;
            switch (what) {
                case 0: was = heat; heat = v; break;
                case 1: was = sip; sip = v; break;
                case 2: was = mirage; mirage = v; break;
                case 3: was = deadly; deadly = v; break;
                default: was = cell; cell = v; break;
            }
            return was;
        }

        int leader() {
            int leader = NOBODY;
            for (int i = 0; i < size; i++) {
                if (walkers[i].lives && (leader == NOBODY || walkers[i].thirst > walkers[leader].thirst)) {
                    leader = i;
                }
            }
            return leader;
        }

        int living() {
            int set = 0;
            for (int i = 0; i < size; i++) {
                set |= walkers[i].lives ? 1 << i : 0;
            }
            return set;
        }

        int thirstTogether() {
            int sum = 0;
            for (int i = 0; i < size; i++) {
                sum += walkers[i].lives ? walkers[i].thirst : 0;
            }
            return sum;
        }

        int wells() {
            int set = 0;
            for (int i = 0; i < CELLS; i++) {
                set |= water[i] > 0 ? 1 << i : 0;
            }
            return set;
        }

        void shareOut(int cups) {
            for (int i = 0; i < size; i++) {
                if (walkers[i].lives) {
                    walkers[i].skin = cups;
                }
            }
        }

        int thirsts(Walker w, Laws laws) {
            int law = laws.latest(BY_THIRST, texts);
            int plain = law == NONE ? heat + 1 : held(laws.gives(law, heat, w.skin, w.thirst), 0, MOST_THIRSTS);
            switch (w.kind) {
                case FAT: return plain + 2;
                case GUIDE: return plain + 2 - 1;
                case THIN: return plain / 2;
                case BOY: return plain / 2 + hour % 2;
                case CAMEL: return 1;
                default: return plain;
            }
        }

        int goes(Walker w) {
            switch (w.kind) {
                case GUIDE: return w.knows == KNOWS_NONE ? wayToWell() : wayTo(w.knows);
                case BOY: return -wayTo(w.knows);
                case CAMEL: return 1;
                default: return wayTo(w.knows);
            }
        }

        private int wayTo(int goal) {
            if (goal == KNOWS_NONE) {
                return 1;
            }
            int ahead = Math.floorMod(goal - cell, CELLS);
            if (ahead == 0) {
                return 0;
            }
            return ahead <= CELLS / 2 ? 1 : -1;
        }

        private int wayToWell() {
            for (int far = 0; far <= CELLS / 2; far++) {
                if (water[Math.floorMod(cell + far, CELLS)] > 0) {
                    return far == 0 ? 0 : 1;
                }
                if (water[Math.floorMod(cell - far, CELLS)] > 0) {
                    return -1;
                }
            }
            return 1;
        }

        /** One HOUR; a band that nobody leads stays, without the draw for a mirage. */
        void passHour(Laws laws, boolean led) {
            heat = draw() % 10;
            if (leader() != NOBODY) {
                if (led) {
                    followLeader();
                }
                drinkAtWell();
                thirstAndSip(laws);
                loseDead();
            }
            hour++;
        }

        private void followLeader() {
            int leader = leader();
            if (leader == NOBODY) {
                return;
            }
            walkers[leader].led++;
            int way = goes(walkers[leader]);
            if (draw() % 100 < mirage) {
                way = -way;
                lost++;
            }
            cell = Math.floorMod(cell + way, CELLS);
        }

        private void drinkAtWell() {
            for (int i = 0; i < size; i++) {
                if (walkers[i].lives) {
                    water[cell] = walkers[i].drinkFrom(water[cell]);
                }
            }
        }

        private void thirstAndSip(Laws laws) {
            for (int i = 0; i < size; i++) {
                if (walkers[i].lives) {
                    walkers[i].thirstBy(thirsts(walkers[i], laws), sip);
                }
            }
        }

        private void loseDead() {
            int cups = 0;
            for (int i = 0; i < size; i++) {
                Walker w = walkers[i];
                if (w.lives && w.thirst >= deadly) {
                    w.lives = false;
                    deaths++;
                    cups += w.skin;
                    w.skin = 0;
                }
            }
            int leader = leader();
            if (leader != NOBODY) {
                walkers[leader].skin = Math.min(MOST_SKIN, walkers[leader].skin + cups);
            }
        }
    }

    /** Of what is offered one by one, that with the least cost; of several the first. */
    private static final class Best {
        private int which = NONE;
        private int least = NONE;

        void starts() {
            which = NONE;
            least = NONE;
        }

        void offer(int other, int cost) {
            if (which == NONE || cost < least) {
                which = other;
                least = cost;
            }
        }

        /** What 0: which it is; else its cost; NONE, if nothing was offered. */
        int chosen(int what) {
            return what == 0 ? which : least;
        }
    }

    /** A TEXT as it is worked out: its operands and signs, each sign behind what it joins. */
    private static final class Law {
        // Steps from 0 on are NUMBERS, from NAMED on NAMES by their place with the KEY, below 0 signs.
        static final int NAMED = 10000;

        final int[] steps = new int[TAPE];
        int length = 0;
        int key = BY_THIRST;
        int operands = 0;

        void starts() {
            length = 0;
            key = BY_THIRST;
            operands = 0;
        }

        void becomes(Law other) {
            System.arraycopy(other.steps, 0, steps, 0, TAPE);
            length = other.length;
            key = other.key;
            operands = other.operands;
        }

        void addOperand(int step) {
            addStep(step);
            operands++;
        }

        void addSign(int sign) {
            addStep(-sign);
        }

        private void addStep(int step) {
            if (length < TAPE) {
                steps[length] = step;
                length++;
            }
        }
    }

    /** The TEXTS that are told, and the room in which they are worked out. */
    private static final class Laws {
        final Law[] laws = new Law[TEXTS];
        private final int[] stack = new int[TAPE];

        Laws() {
            for (int i = 0; i < TEXTS; i++) {
                laws[i] = new Law();
            }
        }

        /** Of the first texts the last one of a KEY, or NONE. */
        int latest(int key, int texts) {
            for (int i = Math.min(texts, TEXTS) - 1; i >= 0; i--) {
                if (laws[i].key == key) {
                    return i;
                }
            }
            return NONE;
        }

        /** What a TEXT gives, with the NAMES of its KEY in their order. */
        int gives(int text, int first, int second, int third) {
            if (text < 0 || text >= TEXTS) {
                return 0;
            }
            Law law = laws[text];
            int top = 0;
            for (int i = 0; i < law.length && i < TAPE; i++) {
                int step = law.steps[i];
                if (step >= 0 && top < TAPE) {
                    stack[top] = step < Law.NAMED ? step : named(step, first, second, third);
                    top++;
                } else if (step == -'!' && top >= 1) {
                    stack[top - 1] = stack[top - 1] == 0 ? 1 : 0;
                } else if (top >= 2) {
                    top--;
                    stack[top - 1] = joined(-step, stack[top - 1], stack[top]);
                }
            }
            return top > 0 ? stack[0] : 0;
        }

        private static int named(int step, int first, int second, int third) {
            switch (step - Law.NAMED) {
                case 0: return first;
                case 1: return second;
                default: return third;
            }
        }

        private static int joined(int sign, int left, int right) {
            switch (sign) {
                case '|': return left != 0 || right != 0 ? 1 : 0;
                case '&': return left != 0 && right != 0 ? 1 : 0;
                case '<': return left < right ? 1 : 0;
                case '=': return left == right ? 1 : 0;
                case '>': return left > right ? 1 : 0;
                case '+': return left + right;
                case '-': return left - right;
                case '*': return left * right;
                default: return right == 0 ? 0 : left / right;
            }
        }
    }

    /** THE TAPE, and what reads it word by word. */
    private static final class Reader {
        // What stands at the place that is looked at: a byte that is a sign by itself, or one of these.
        private static final int LETTERS = 256, DIGITS = 257, END = 258, UNPARTED = 259, START = 260;
        private static final int OR = 0, AND = 1, TEST = 2, SUM = 3, TERM = 4;

        final Law read = new Law();
        int length = 0;
        int place = 0;
        private final int[] bytes = new int[TAPE];
        private int after = 0;
        private int seen = START;

        void takeBytes(int four) {
            for (int shift = 24; shift >= 0 && length < TAPE; shift -= 8) {
                bytes[length] = (four >>> shift) & 255;
                length++;
            }
        }

        /** Whether THE TAPE is a TEXT; if not, place is that of its FAULT. */
        boolean readText() {
            read.starts();
            after = 0;
            seen = START;
            step();
            if (!readKey()) {
                return false;
            }
            step();
            return readLevel(OR, 0, 0) && seen == END;
        }

        private void step() {
            boolean wasWord = isWord();
            int from = after;
            place = skipped(from, ' ', ' ');
            after = place + 1;
            if (place >= length) {
                seen = END;
                after = length;
            } else if (isIn(place, 'a', 'z')) {
                seen = LETTERS;
                after = skipped(place, 'a', 'z');
            } else if (isIn(place, '0', '9')) {
                seen = DIGITS;
                after = skipped(place, '0', '9');
            } else {
                seen = bytes[place];
            }
            if (wasWord && isWord() && place == from) {
                seen = UNPARTED;
            }
        }

        private boolean isWord() {
            return seen == LETTERS || seen == DIGITS;
        }

        private boolean isIn(int at, int least, int most) {
            return at >= 0 && at < length && at < TAPE && bytes[at] >= least && bytes[at] <= most;
        }

        /** The first place from one on whose byte is not within bounds. */
        private int skipped(int from, int least, int most) {
            int at = from;
            while (at < length && isIn(at, least, most)) {
                at++;
            }
            return at;
        }

        private boolean readKey() {
            if (seen != LETTERS) {
                return false;
            }
            for (int key = 0; key < KEYS; key++) {
                if (stands(wordOf(key))) {
                    read.key = key;
                    return true;
                }
            }
            return false;
        }

        private static String wordOf(int key) {
            switch (key) {
                case BY_THIRST: return "thirst";
                case BY_FEE: return "fee";
                default: return "fine";
            }
        }

        private static String namesOf(int key) {
            switch (key) {
                case BY_THIRST: return "hst";
                case BY_FEE: return "dl";
                default: return "sl";
            }
        }

        private boolean stands(String word) {
            if (after - place != word.length()) {
                return false;
            }
            for (int i = 0; i < word.length(); i++) {
                if (!isIn(place + i, word.charAt(i), word.charAt(i))) {
                    return false;
                }
            }
            return true;
        }

        /** Reads what is of a level or binds closer, within so many ( and ! that are open. */
        private boolean readLevel(int level, int opened, int denied) {
            if (level > TERM) {
                return readPiece(opened, denied);
            }
            if (!readLevel(level + 1, opened, denied)) {
                return false;
            }
            int most = level == TEST ? 1 : TAPE;
            for (int i = 0; i < most && joins(level, seen); i++) {
                int sign = seen;
                step();
                if (!readLevel(level + 1, opened, denied)) {
                    return false;
                }
                read.addSign(sign);
            }
            return true;
        }

        private static boolean joins(int level, int sign) {
            switch (level) {
                case OR: return sign == '|';
                case AND: return sign == '&';
                case TEST: return sign == '<' || sign == '=' || sign == '>';
                case SUM: return sign == '+' || sign == '-';
                default: return sign == '*' || sign == '/';
            }
        }

        private boolean readPiece(int opened, int denied) {
            switch (seen) {
                case DIGITS: return readNumber();
                case LETTERS: return readName();
                case '!': return denied < OPEN_AT_MOST && readDenied(opened, denied + 1);
                case '(': return opened < OPEN_AT_MOST && readOpened(opened + 1, denied);
                default: return false;
            }
        }

        private boolean readNumber() {
            if (after - place > DIGITS_AT_MOST) {
                return false;
            }
            int number = 0;
            for (int i = place; i < after && i < TAPE; i++) {
                number = number * 10 + bytes[i] - '0';
            }
            read.addOperand(number);
            step();
            return true;
        }

        private boolean readName() {
            String names = namesOf(read.key);
            for (int i = 0; i < names.length(); i++) {
                if (after - place == 1 && isIn(place, names.charAt(i), names.charAt(i))) {
                    read.addOperand(Law.NAMED + i);
                    step();
                    return true;
                }
            }
            return false;
        }

        private boolean readDenied(int opened, int denied) {
            step();
            if (!readPiece(opened, denied)) {
                return false;
            }
            read.addSign('!');
            return true;
        }

        private boolean readOpened(int opened, int denied) {
            step();
            if (!readLevel(OR, opened, denied) || seen != ')') {
                return false;
            }
            step();
            return true;
        }
    }

    /** A row of shorts or of floats, all of them whole; a place may be NO NUMBER. */
    private static final class Sheet {
        final int[] places = new int[PLACES];
        int sort = MISSING;
        int size = 0;

        void starts(int newSort, int newSize) {
            sort = newSort;
            size = newSize;
            for (int i = 0; i < PLACES; i++) {
                places[i] = 0;
            }
        }

        void becomes(Sheet other) {
            System.arraycopy(other.places, 0, places, 0, PLACES);
            sort = other.sort;
            size = other.size;
        }

        boolean has(int place) {
            return place >= 0 && place < size && place < PLACES;
        }

        boolean hasNumber(int place) {
            return has(place) && places[place] != NO_NUMBER;
        }

        boolean hasRow(int from, int many) {
            return from >= 0 && many >= 0 && many <= size && from <= size - many;
        }
    }

    /** Holds nothing, a WALKER, a SHEET or a number, as it was when it was laid. */
    private static final class Slot {
        final Walker walker = new Walker();
        final Sheet sheet = new Sheet();
        int thing = EMPTY;
        int number = 0;
    }
}
