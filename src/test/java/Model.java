import java.util.ArrayList;
import java.util.Arrays;
import java.util.HashMap;
import java.util.List;
import java.util.Map;

/**
 * The document once more, written apart from the class and another way (kinds as classes, states that
 * are copied whole, texts that are split at their loosest sign, faults by a row of expectations), so that
 * a slip in one of the two shows.
 */
final class Model {
    static final int BAD = -1000000001, NO = -1000000002, FULL = -1000000003, NONE = -1000000005;
    static final int NOTHING = -1000000011, KIND = -1000000012, INDEX = -1000000013, SIZE = -1000000014;

    static class Man {
        int thirst, skin, knows, led;
        boolean dead;

        int kind() { return 0; }
        int asWalkerThirsts(State s) {
            String law = s.laws.get("thirst");
            if (law == null) return s.heat + 1;
            int v = value(law, Map.of('h', s.heat, 's', skin, 't', thirst));
            return v < 0 ? 0 : v > 40 ? 40 : v;
        }
        int thirsts(State s) { return asWalkerThirsts(s); }
        int slakes() { return 5; }
        int goes(State s) {
            if (knows == 24) return 1;
            return nearer(s.cell, knows);
        }
        int worth() { return skin; }
    }

    static class Fat extends Man {
        @Override int kind() { return 1; }
        @Override int thirsts(State s) { return super.thirsts(s) + 2; }
        @Override int slakes() { return 4; }
        @Override int worth() { return super.worth() + 8; }
    }

    static class Thin extends Man {
        @Override int kind() { return 2; }
        @Override int thirsts(State s) { return super.thirsts(s) / 2; }
        @Override int slakes() { return 6; }
        @Override int worth() { return 99 - skin; }
    }

    static class Guide extends Fat {
        @Override int kind() { return 3; }
        @Override int thirsts(State s) { return super.thirsts(s) - 1; }
        @Override int goes(State s) {
            if (knows != 24) return super.goes(s);
            int least = 99;
            int way = 1;
            for (int cell = 0; cell < 24; cell++) {
                if (s.water[cell] == 0) continue;
                int up = (cell - s.cell + 24) % 24;
                int down = (s.cell - cell + 24) % 24;
                int near = Math.min(up, down);
                if (near < least) {
                    least = near;
                    way = nearer(s.cell, cell);
                } else if (near == least && nearer(s.cell, cell) == 1) {
                    way = 1;
                }
            }
            return way;
        }
        @Override int worth() { return 2 * super.worth(); }
    }

    static class Boy extends Thin {
        @Override int kind() { return 4; }
        @Override int thirsts(State s) { return super.thirsts(s) + (s.hour % 2 == 1 ? 1 : 0); }
        @Override int slakes() { return super.slakes() + 1; }
        @Override int goes(State s) { return -super.goes(s); }
        @Override int worth() { return super.worth() - 3; }
    }

    static class Camel extends Man {
        @Override int kind() { return 5; }
        @Override int thirsts(State s) { return 1; }
        @Override int slakes() { return 9; }
        @Override int goes(State s) { return 1; }
        @Override int worth() { return 4; }
    }

    static final class State {
        int[] water = new int[24];
        List<Man> men = new ArrayList<>();
        List<String> texts = new ArrayList<>();
        Map<String, String> laws = new HashMap<>();
        int cell, heat = 3, sip = 2, mirage, deadly = 60, deaths, lost, hour, z = 1;

        State copied() {
            State s = new State();
            s.water = water.clone();
            for (Man m : men) s.men.add(turned(m, m.kind()));
            s.texts.addAll(texts);
            s.laws.putAll(laws);
            s.cell = cell; s.heat = heat; s.sip = sip; s.mirage = mirage; s.deadly = deadly;
            s.deaths = deaths; s.lost = lost; s.hour = hour; s.z = z;
            return s;
        }

        int draw() {
            z = z * 1103515245 + 12345;
            return z >>> 8;
        }

        Man leader() {
            Man best = null;
            for (Man m : men) if (!m.dead && (best == null || best.thirst < m.thirst)) best = m;
            return best;
        }

        void anHour(boolean led) {
            heat = draw() % 10;
            Man leader = leader();
            if (leader != null) {
                if (led) {
                    leader.led++;
                    int goes = leader.goes(this);
                    if (draw() % 100 < mirage) {
                        lost++;
                        goes = -goes;
                    }
                    cell = (cell + goes + 24) % 24;
                }
                for (Man m : men) {
                    if (m.dead) continue;
                    while (water[cell] > 0 && m.thirst > 0) {
                        water[cell]--;
                        m.thirst = Math.max(0, m.thirst - m.slakes());
                    }
                    while (water[cell] > 0 && m.skin < 30) {
                        water[cell]--;
                        m.skin++;
                    }
                }
                for (Man m : men) {
                    if (m.dead) continue;
                    m.thirst = Math.min(99, m.thirst + m.thirsts(this));
                    if (m.thirst >= 20) {
                        for (int i = 0; i < sip && m.skin > 0; i++) {
                            m.skin--;
                            m.thirst = Math.max(0, m.thirst - m.slakes());
                        }
                    }
                }
                int pool = 0;
                for (Man m : men) {
                    if (!m.dead && m.thirst >= deadly) {
                        m.dead = true;
                        deaths++;
                        pool += m.skin;
                        m.skin = 0;
                    }
                }
                if (leader() != null) leader().skin = Math.min(30, leader().skin + pool);
            }
            hour++;
        }

        State behind(int n) {
            State s = copied();
            for (int i = 0; i < n; i++) s.anHour(true);
            return s;
        }

        int living() {
            int set = 0;
            for (int i = 0; i < men.size(); i++) if (!men.get(i).dead) set += 1 << i;
            return set;
        }

        int together() {
            int sum = 0;
            for (Man m : men) if (!m.dead) sum += m.thirst;
            return sum;
        }
    }

    static int nearer(int from, int to) {
        int up = (to - from + 24) % 24;
        int down = (from - to + 24) % 24;
        return up == 0 ? 0 : up <= down ? 1 : -1;
    }

    static Man turned(Man m, int kind) {
        Man n = switch (kind) {
            case 0 -> new Man();
            case 1 -> new Fat();
            case 2 -> new Thin();
            case 3 -> new Guide();
            case 4 -> new Boy();
            default -> new Camel();
        };
        n.thirst = m.thirst; n.skin = m.skin; n.knows = m.knows; n.led = m.led; n.dead = m.dead;
        return n;
    }

    static boolean isOf(Man m, int kind) {
        Class<?>[] all = {Man.class, Fat.class, Thin.class, Guide.class, Boy.class, Camel.class};
        return all[kind].isInstance(m);
    }

    // ---- texts, as rows of words

    /** The places at which words and signs begin, the end of the tape behind them. */
    static List<int[]> words(String tape) {
        List<int[]> all = new ArrayList<>();
        java.util.regex.Matcher m = java.util.regex.Pattern.compile("(?s)[a-z]+|[0-9]+|[^ ]").matcher(tape);
        while (m.find()) all.add(new int[] {m.start(), m.end()});
        return all;
    }

    /** The place of the FAULT, or -1: what may come is kept as expectations, not as a tree. */
    static int fault(String tape) {
        List<int[]> words = words(tape);
        String names = null;
        boolean operandDue = true;
        List<boolean[]> compared = new ArrayList<>();
        List<Integer> bases = new ArrayList<>();
        compared.add(new boolean[1]);
        int base = 0;
        int nots = 0;
        for (int i = 0; i < words.size(); i++) {
            int at = words.get(i)[0];
            String w = tape.substring(at, words.get(i)[1]);
            boolean word = w.matches("[a-z]+|[0-9]+");
            if (i > 0 && word && words.get(i - 1)[1] == at && tape.substring(at - 1, at).matches("[a-z0-9]")) return at;
            if (names == null) {
                names = w.equals("thirst") ? "hst" : w.equals("fee") ? "dl" : w.equals("fine") ? "sl" : null;
                if (names == null) return at;
                continue;
            }
            boolean[] here = compared.get(compared.size() - 1);
            if (operandDue) {
                if (w.equals("!")) {
                    if (++nots > 8) return at;
                } else if (w.equals("(")) {
                    if (compared.size() > 8) return at;
                    compared.add(new boolean[1]);
                    bases.add(base);
                    base = nots;
                } else if (w.matches("[0-9]{1,4}") || w.matches("[" + names + "]")) {
                    operandDue = false;
                    nots = base;
                } else {
                    return at;
                }
            } else if (w.matches("[-+*/]")) {
                operandDue = true;
            } else if (w.matches("[|&]")) {
                here[0] = false;
                operandDue = true;
            } else if (w.matches("[<=>]") && !here[0]) {
                here[0] = true;
                operandDue = true;
            } else if (w.equals(")") && compared.size() > 1) {
                compared.remove(compared.size() - 1);
                base = bases.remove(bases.size() - 1);
                nots = base;
            } else {
                return at;
            }
        }
        return names == null || operandDue || compared.size() > 1 ? tape.length() : -1;
    }

    static int value(String law, Map<Character, Integer> named) {
        String e = law.substring(keyEnd(law));
        return worked(e.replace(" ", ""), named);
    }

    static int keyEnd(String law) {
        for (String k : new String[] {"thirst", "fee", "fine"}) {
            String t = law.stripLeading();
            if (t.startsWith(k)) return law.length() - t.length() + k.length();
        }
        throw new IllegalStateException(law);
    }

    /** Splits at the last sign of the loosest sort that stands outside all brackets. */
    static int worked(String e, Map<Character, Integer> named) {
        for (String signs : new String[] {"|", "&", "<=>", "+-", "*/"}) {
            int open = 0;
            for (int i = e.length() - 1; i > 0; i--) {
                char c = e.charAt(i);
                if (c == ')') open++;
                if (c == '(') open--;
                if (open == 0 && signs.indexOf(c) >= 0) {
                    return joined(c, worked(e.substring(0, i), named), worked(e.substring(i + 1), named));
                }
            }
        }
        if (e.charAt(0) == '!') return worked(e.substring(1), named) == 0 ? 1 : 0;
        if (e.charAt(0) == '(') return worked(e.substring(1, e.length() - 1), named);
        if (Character.isDigit(e.charAt(0))) return Integer.parseInt(e);
        return named.get(e.charAt(0));
    }

    static int joined(char c, int a, int b) {
        boolean is = switch (c) {
            case '|' -> a != 0 | b != 0;
            case '&' -> a != 0 & b != 0;
            case '<' -> a < b;
            case '=' -> a == b;
            case '>' -> a > b;
            default -> false;
        };
        return switch (c) {
            case '+' -> a + b;
            case '-' -> a - b;
            case '*' -> a * b;
            case '/' -> b == 0 ? 0 : a / b;
            default -> is ? 1 : 0;
        };
    }

    // ---- the face

    State s = new State();
    State image = null;
    StringBuilder tape = new StringBuilder();
    List<Integer> waiting = new ArrayList<>();
    Object[] sheets = new Object[4];
    Object[] slots = new Object[5];

    private boolean out(int v, int least, int most) { return v < least || v > most; }
    private boolean noMan(int w) { return out(w, 0, s.men.size() - 1); }

    int walker(int kind, int skin, int knows) {
        if (out(kind, 0, 5) || out(skin, 0, 30) || out(knows, 0, 24)) return BAD;
        if (s.men.size() == 10) return FULL;
        Man m = new Man();
        m.skin = skin;
        m.knows = knows;
        s.men.add(turned(m, kind));
        return s.men.size() - 1;
    }

    int told(int walker, int what) {
        if (noMan(walker) || out(what, 0, 9)) return BAD;
        Man m = s.men.get(walker);
        return new int[] {m.kind(), m.thirst, m.skin, m.knows, m.led, m.dead ? 0 : 1, m.thirsts(s), m.slakes(), m.goes(s), m.worth()}[what];
    }

    int as(int walker, int kind) {
        if (noMan(walker) || out(kind, 0, 5)) return BAD;
        return isOf(s.men.get(walker), kind) ? s.men.get(walker).skin : KIND;
    }

    int turns(int walker, int kind) {
        if (noMan(walker) || out(kind, 0, 5)) return BAD;
        int was = s.men.get(walker).kind();
        s.men.set(walker, turned(s.men.get(walker), kind));
        return was;
    }

    int set(int walker, int what, int v) {
        if (noMan(walker) || out(what, 1, 3) || out(v, 0, what == 1 ? 99 : what == 2 ? 30 : 24)) return BAD;
        int was = told(walker, what);
        Man m = s.men.get(walker);
        if (what == 1) m.thirst = v;
        if (what == 2) m.skin = v;
        if (what == 3) m.knows = v;
        return was;
    }

    int water(int cell, int v) {
        if (out(cell, 0, 23) || out(v, 0, 99)) return BAD;
        int was = s.water[cell];
        s.water[cell] = v;
        return was;
    }

    int rule(int what, int v) {
        int was;
        if (what == 0 && !out(v, 0, 9)) { was = s.heat; s.heat = v; return was; }
        if (what == 1 && !out(v, 1, 9)) { was = s.sip; s.sip = v; return was; }
        if (what == 2 && !out(v, 0, 100)) { was = s.mirage; s.mirage = v; return was; }
        if (what == 3 && !out(v, 20, 99)) { was = s.deadly; s.deadly = v; return was; }
        if (what == 4 && !out(v, 0, 23)) { was = s.cell; s.cell = v; return was; }
        return BAD;
    }

    int deal(int n) {
        if (out(n, 1, 10)) return BAD;
        int came = 0;
        while (came < n && s.men.size() < 10) {
            int kind = s.draw() % 6;
            int skin = s.draw() % 31;
            walker(kind, skin, s.draw() % 25);
            came++;
        }
        return came;
    }

    int seed(int v) {
        int was = s.z;
        s.z = v;
        return was;
    }

    int hours(int n) {
        if (out(n, 1, 100)) return BAD;
        int was = s.deaths;
        for (int i = 0; i < n && s.hour < 9999; i++) s.anHour(true);
        return s.deaths - was;
    }

    int band(int what) {
        if (out(what, 0, 6)) return BAD;
        int wells = 0;
        for (int i = 0; i < 24; i++) if (s.water[i] > 0) wells += 1 << i;
        int leader = s.leader() == null ? NONE : s.men.indexOf(s.leader());
        return new int[] {s.cell, leader, s.deaths, s.lost, s.living(), s.together(), wells}[what];
    }

    int behind(int n, int what) {
        if (out(n, 0, 100) || out(what, 0, 2 + s.men.size())) return BAD;
        State b = s.behind(n);
        return what == 0 ? b.cell : what == 1 ? b.deaths : what == 2 ? b.living() : b.men.get(what - 3).thirst;
    }

    int lasts() {
        for (int n = 1; n <= 200; n++) if (s.behind(n).deaths > s.deaths) return n;
        return NONE;
    }

    int salted(int n, int what) {
        if (out(n, 1, 60) || out(what, 0, 1)) return BAD;
        int[] best = null;
        for (int i = 0; i < s.men.size(); i++) {
            State t = s.copied();
            Man m = t.men.get(i);
            if (m.dead) continue;
            m.thirst = Math.min(99, m.thirst + 30);
            int d = t.behind(n).deaths;
            if (best == null || d < best[1]) best = new int[] {i, d};
        }
        return best == null ? NONE : best[what];
    }

    int tells(int walker, int n, int what) {
        if (noMan(walker) || out(n, 1, 40) || out(what, 0, 1)) return BAD;
        int[] best = null;
        for (int i = 0; i < 24; i++) {
            State t = s.copied();
            t.men.get(walker).knows = i;
            int d = t.behind(n).deaths;
            if (best == null || d < best[1]) best = new int[] {i, d};
        }
        return best[what];
    }

    int custom(int n) {
        if (out(n, 1, 60)) return BAD;
        State t = s.copied();
        for (int i = 0; i < n; i++) t.anHour(false);
        return s.behind(n).deaths - t.deaths;
    }

    int enough(int n) {
        if (out(n, 1, 40)) return BAD;
        for (int cups = 0; cups <= 30; cups++) {
            State t = s.copied();
            for (Man m : t.men) if (!m.dead) m.skin = cups;
            if (t.behind(n).deaths == s.deaths) return cups;
        }
        return NONE;
    }

    int shown(int n) {
        if (out(n, 1, 100)) return BAD;
        int set = 0;
        for (int i = 1; i <= n; i++) set |= 1 << s.behind(i).cell;
        return set;
    }

    int thirsted(int sheet, int walker, int what) {
        if (out(sheet, 0, 3) || noMan(walker) || out(what, 0, 1)) return BAD;
        if (sheets[sheet] == null) return NOTHING;
        int[] best = null;
        for (int v = 0; v <= 95; v += 5) {
            State t = s.copied();
            t.men.get(walker).thirst = v;
            int sum = 0;
            for (int k = 0; k < length(sheets[sheet]); k++) {
                Integer p = at(sheets[sheet], k);
                if (p != null) sum += Math.abs(p - t.behind(k).men.get(walker).thirst);
            }
            if (best == null || sum < best[1]) best = new int[] {v, sum};
        }
        return best[what];
    }

    int fee() {
        String law = s.laws.get("fee");
        return law == null ? s.deaths : value(law, Map.of('d', s.deaths, 'l', s.lost));
    }

    int fine(int walker) {
        if (noMan(walker)) return BAD;
        Man m = s.men.get(walker);
        String law = s.laws.get("fine");
        return law == null ? m.led : value(law, Map.of('s', m.skin, 'l', m.led));
    }

    int feed(int a, int b, int c) {
        if (tape.length() > 84) return FULL;
        for (int v : new int[] {a, b, c}) {
            for (int k = 3; k >= 0; k--) tape.append((char) (v >> 8 * k & 255));
        }
        return tape.length();
    }

    int trim(int n) {
        if (out(n, 0, tape.length())) return BAD;
        tape.setLength(n);
        return n;
    }

    int text() {
        String t = tape.toString();
        tape.setLength(0);
        int fault = fault(t);
        if (fault >= 0) return -100 - fault;
        if (s.texts.size() == 14) return FULL;
        s.texts.add(t);
        s.laws.put(t.substring(0, keyEnd(t)).trim(), t);
        return s.texts.size() - 1;
    }

    private int key(String law) {
        return List.of("thirst", "fee", "fine").indexOf(law.substring(0, keyEnd(law)).trim());
    }

    int textTold(int text, int what) {
        if (out(text, 0, s.texts.size() - 1) || out(what, 0, 1)) return BAD;
        String law = s.texts.get(text);
        if (what == 0) return key(law);
        int many = 0;
        for (int[] w : words(law)) if (Character.isLetterOrDigit(law.charAt(w[0]))) many++;
        return many - 1;
    }

    int why(int key) {
        if (out(key, 0, 2)) return BAD;
        int last = NONE;
        for (int i = 0; i < s.texts.size(); i++) if (key(s.texts.get(i)) == key) last = i;
        return last;
    }

    private static int length(Object row) {
        return row instanceof short[] r ? r.length : ((float[]) row).length;
    }

    private static Integer at(Object row, int place) {
        if (row instanceof short[] r) return (int) r[place];
        float f = ((float[]) row)[place];
        return Float.isNaN(f) ? null : (Integer) (int) f;
    }

    int sheet(int sheet, int sort, int n) {
        if (out(sheet, 0, 3) || out(sort, -1, 1)) return BAD;
        if (sort == -1) {
            sheets[sheet] = null;
            return 0;
        }
        if (n > 24) return BAD;
        try {
            sheets[sheet] = sort == 0 ? new short[n] : new float[n];
        } catch (NegativeArraySizeException e) {
            return SIZE;
        }
        return n;
    }

    int mark(int sheet, int place, int v) {
        if (out(sheet, 0, 3)) return BAD;
        if (sheets[sheet] == null) return NOTHING;
        if (out(place, 0, length(sheets[sheet]) - 1)) return INDEX;
        if (sheets[sheet] instanceof short[] r) {
            if (v == NONE) return KIND;
            r[place] = (short) v;
        } else {
            if (v != NONE && out(v, -99999, 99999)) return BAD;
            ((float[]) sheets[sheet])[place] = v == NONE ? Float.NaN : v;
        }
        return 1;
    }

    int pour(int sheet) {
        if (out(sheet, 0, 3)) return BAD;
        if (sheets[sheet] == null) return NOTHING;
        int many = 0;
        for (int i = 0; i < length(sheets[sheet]); i++) {
            Integer p = at(sheets[sheet], i);
            if (p == null) continue;
            int v = Math.max(0, Math.min(99, p));
            if (v != s.water[i]) many++;
            s.water[i] = v;
        }
        return many;
    }

    int reads(int sheet) {
        if (out(sheet, 0, 3)) return BAD;
        if (sheets[sheet] == null) return NOTHING;
        for (int i = 0; i < length(sheets[sheet]); i++) {
            Integer p = at(sheets[sheet], i);
            if (p != null && (noMan(i) || s.men.get(i).thirst != p)) return i;
        }
        return NONE;
    }

    int copy(int from, int place, int to, int at, int many) {
        if (out(from, 0, 3) || out(to, 0, 3)) return BAD;
        try {
            System.arraycopy(sheets[from], place, sheets[to], at, many);
        } catch (NullPointerException e) {
            return NOTHING;
        } catch (ArrayStoreException e) {
            return KIND;
        } catch (IndexOutOfBoundsException e) {
            return INDEX;
        }
        return many;
    }

    private static int sortOf(Object thing) {
        return thing == null ? 0 : thing instanceof Man ? 1 : thing instanceof Integer ? 3 : 2;
    }

    int lay(int slot, int thing, int k) {
        if (out(slot, 0, 4) || out(thing, 0, 3) || thing == 1 && noMan(k) || thing == 2 && out(k, 0, 3)) return BAD;
        if (thing == 2 && sheets[k] == null) return NOTHING;
        int was = sortOf(slots[slot]);
        Object[] may = {
            null,
            thing == 1 ? turned(s.men.get(k), s.men.get(k).kind()) : null,
            thing == 2 ? sheets[k] instanceof short[] r ? r.clone() : ((float[]) sheets[k]).clone() : null,
            k};
        slots[slot] = may[thing];
        return was;
    }

    int ask(int slot, int kind) {
        if (out(slot, 0, 4) || out(kind, 0, 5)) return BAD;
        if (slots[slot] == null) return NOTHING;
        return slots[slot] instanceof Man m && isOf(m, kind) ? m.worth() : KIND;
    }

    int item(int slot, int place) {
        if (out(slot, 0, 4)) return BAD;
        if (slots[slot] == null) return NOTHING;
        if (sortOf(slots[slot]) != 2) return KIND;
        if (out(place, 0, length(slots[slot]) - 1)) return INDEX;
        Integer p = at(slots[slot], place);
        return p == null ? KIND : p;
    }

    int rest(int slot, int n) {
        if (out(slot, 0, 4)) return BAD;
        if (slots[slot] == null) return NOTHING;
        if (!(slots[slot] instanceof Integer v)) return KIND;
        return n == 0 ? NO : v % n;
    }

    int tell(int v) {
        if (waiting.size() == 60) return FULL;
        waiting.add(v);
        return waiting.size();
    }

    int check(int n) {
        List<Integer> got = new ArrayList<>(waiting);
        waiting.clear();
        if (out(n, 1, 30)) return BAD;
        if (image == null) return NO;
        List<Integer> due = new ArrayList<>();
        State t = image.copied();
        for (int i = 0; i < n && t.hour < 9999; i++) {
            t.anHour(true);
            due.add(t.cell);
            due.add(t.together());
        }
        int at = Arrays.mismatch(
            got.stream().mapToInt(Integer::intValue).toArray(), due.stream().mapToInt(Integer::intValue).toArray());
        return at < 0 ? 0 : 1 + at;
    }

    int keep() {
        image = s.copied();
        return s.men.size();
    }

    int back() {
        if (image == null) return NO;
        s = image.copied();
        return s.men.size();
    }

    int count(int what) {
        if (out(what, 0, 9)) return BAD;
        return new int[] {s.men.size(), s.hour, s.heat, s.sip, s.mirage, s.deadly, s.texts.size(), waiting.size(), tape.length(), s.z}[what];
    }
}
