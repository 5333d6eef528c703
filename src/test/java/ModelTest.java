import java.lang.reflect.Method;
import java.util.ArrayList;
import java.util.Arrays;
import java.util.List;
import java.util.Random;

/** Runs of calls by lot (the same ones each time) on the class and on the model: both answer alike. */
public final class ModelTest {
    private static final int RUNS = Integer.getInteger("runs", 300);
    private static final int CALLS = 512;

    private final Random lot;
    private final ThirstLead x = new ThirstLead();
    private final Model model = new Model();
    private final List<String> log = new ArrayList<>();

    private ModelTest(long seed) {
        lot = new Random(seed);
    }

    public static void main(String[] args) throws Exception {
        for (int run = 0; run < RUNS; run++) {
            new ModelTest(run).run(run);
        }
        Due.end("ModelTest");
    }

    private static final String[] NAMES = {
        "walker", "told", "as", "turns", "set", "water", "rule", "deal", "seed", "hours", "band", "behind", "lasts",
        "salted", "tells", "custom", "enough", "shown", "thirsted", "fee", "fine", "feed", "trim", "text", "textTold",
        "why", "sheet", "mark", "pour", "reads", "copy", "lay", "ask", "item", "rest", "tell", "check", "keep",
        "back", "count"};
    private static final Method[] FACE = new Method[NAMES.length];
    private static final Method[] SAME = new Method[NAMES.length];

    static {
        for (int i = 0; i < NAMES.length; i++) {
            FACE[i] = named(ThirstLead.class, NAMES[i]);
            SAME[i] = named(Model.class, NAMES[i]);
        }
    }

    private static Method named(Class<?> of, String name) {
        for (Method m : of.getDeclaredMethods()) {
            if (m.getName().equals(name)) {
                return m;
            }
        }
        throw new IllegalStateException(name);
    }

    private void run(int run) throws Exception {
        if (lot.nextInt(4) != 0) {
            call("seed", lot.nextInt());
            call("deal", 1 + lot.nextInt(10));
            for (int i = lot.nextInt(6); i > 0; i--) {
                call("water", lot.nextInt(24), lot.nextInt(100));
            }
        }
        if (lot.nextInt(3) == 0) {
            layOut();
        }
        if (lot.nextInt(12) == 0) {
            passNearlyAllHours();
        }
        for (int i = log.size(); i < CALLS; i = log.size()) {
            int what = lot.nextInt(NAMES.length + 6);
            if (what < NAMES.length) {
                Object[] args = new Object[FACE[what].getParameterCount()];
                for (int k = 0; k < args.length; k++) {
                    args[k] = number(NAMES[what], k);
                }
                call(NAMES[what], args);
            } else if (what < NAMES.length + 3) {
                tellText();
            } else if (what < NAMES.length + 4) {
                tellHours();
            } else {
                look();
            }
        }
        look();
    }

    /** Sheets of both sorts with numbers in them, so that calls by lot find some. */
    private void layOut() throws Exception {
        for (int sheet = 0; sheet < 4; sheet++) {
            call("sheet", sheet, sheet % 2, 4 + lot.nextInt(9));
            for (int place = 0; place < 6; place++) {
                call("mark", sheet, place, lot.nextInt(5) == 0 ? Model.NONE : lot.nextInt(100));
            }
            call("lay", sheet, 2, sheet);
        }
        call("lay", 4, 1 + 2 * lot.nextInt(2), lot.nextInt(3));
    }

    /** The bound of THE HOUR lies further off than the calls of a run go otherwise. */
    private void passNearlyAllHours() throws Exception {
        for (int i = 0; i < 99; i++) {
            call("hours", 100);
        }
        call("hours", 60 + lot.nextInt(39));
        call("keep");
    }

    private void call(String name, Object... args) throws Exception {
        int i = Arrays.asList(NAMES).indexOf(name);
        int got = (int) FACE[i].invoke(x, args);
        int want = (int) SAME[i].invoke(model, args);
        log.add(name + Arrays.toString(args) + " -> " + want);
        if (got != want) {
            int from = Math.max(0, log.size() - 40);
            System.out.println(String.join("\n", log.subList(from, log.size())));
            Due.is(name + Arrays.toString(args) + " (by lot)", got, want);
            Due.end("ModelTest");
        }
    }

    /** All that can be told, so that a call that should change nothing shows if it did. */
    private void look() throws Exception {
        for (int k = 0; k < 10; k++) {
            call("count", k);
        }
        for (int k = 0; k < 7; k++) {
            call("band", k);
        }
        int walker = lot.nextInt(10);
        for (int k = 0; k < 10; k++) {
            call("told", walker, k);
        }
    }

    private int number(String call, int place) {
        int odd = lot.nextInt(60);
        if (odd == 0) {
            return lot.nextInt();
        }
        if (odd == 1) {
            int[] edges = {-1, 0, 1, 24, 25, 30, 31, 99, 100, Integer.MAX_VALUE, Integer.MIN_VALUE, Model.NONE};
            return edges[lot.nextInt(edges.length)];
        }
        switch (call + place) {
            case "hours0": return lot.nextInt(9) == 0 ? lot.nextInt(103) : 1 + lot.nextInt(5);
            case "behind0": case "shown0": return lot.nextInt(5) == 0 ? lot.nextInt(103) : lot.nextInt(20);
            case "salted0": case "custom0": return lot.nextInt(5) == 0 ? lot.nextInt(63) : 1 + lot.nextInt(20);
            case "tells1": case "enough0": return lot.nextInt(5) == 0 ? lot.nextInt(43) : 1 + lot.nextInt(12);
            case "check0": return lot.nextInt(33);
            case "mark2": return lot.nextInt(4) == 0 ? Model.NONE : lot.nextInt(5) == 0 ? lot.nextInt(240000) - 120000 : lot.nextInt(110) - 5;
            case "seed0": case "feed0": case "feed1": case "feed2": case "lay9": return lot.nextInt();
            case "trim0": return lot.nextInt(40);
            case "tell0": return lot.nextInt(60);
            case "walker1": case "set2": return lot.nextInt(32);
            case "walker2": return lot.nextInt(26);
            case "rule0": return lot.nextInt(6);
            case "rule1": return lot.nextInt(3) == 0 ? 20 + lot.nextInt(82) : lot.nextInt(11);
            case "water0": return lot.nextInt(25);
            case "water1": return lot.nextInt(101);
            case "sheet1": return lot.nextInt(8) == 0 ? -1 : lot.nextInt(2);
            case "sheet2": return lot.nextInt(20) == 0 ? 25 : lot.nextInt(24);
            case "sheet0": case "mark0": case "pour0": case "reads0": case "thirsted0": case "copy0": case "copy2":
                return lot.nextInt(4);
            case "mark1": case "item1": return lot.nextInt(12);
            case "copy1": case "copy3": case "copy4": return lot.nextInt(9) - (lot.nextInt(6) == 0 ? 4 : 0);
            case "lay0": case "ask0": case "item0": case "rest0": return lot.nextInt(5);
            case "lay1": return lot.nextInt(4);
            case "lay2": return lot.nextInt(5);
            case "rest1": return lot.nextInt(9) - 4;
            case "told1": case "count0": return lot.nextInt(11);
            case "behind1": return lot.nextInt(14);
            default: return lot.nextInt(7);
        }
    }

    private void tellText() throws Exception {
        String key = new String[] {"thirst", "fee", "fine"}[lot.nextInt(3)];
        String names = key.equals("thirst") ? "hst" : key.equals("fee") ? "dl" : "sl";
        StringBuilder t = new StringBuilder(key).append(' ').append(expression(names, lot.nextInt(4)));
        for (int i = lot.nextInt(3); i > 0 && lot.nextInt(2) == 0; i--) {
            int at = lot.nextInt(t.length());
            String signs = " ()!|&<=>+-*/hstdlq0123456789_";
            switch (lot.nextInt(3)) {
                case 0: t.deleteCharAt(at); break;
                case 1: t.insert(at, signs.charAt(lot.nextInt(signs.length()))); break;
                default: t.setCharAt(at, lot.nextInt(9) == 0 ? (char) lot.nextInt(256) : signs.charAt(lot.nextInt(signs.length())));
            }
        }
        String text = t.length() > 96 ? t.substring(0, 96) : t.toString();
        call("trim", 0);
        for (int i = 0; i < text.length(); i += 12) {
            call("feed", four(text, i), four(text, i + 4), four(text, i + 8));
        }
        call("trim", text.length());
        call("text");
        call("textTold", lot.nextInt(15), lot.nextInt(2));
        call("why", lot.nextInt(3));
        call("fee");
        call("fine", lot.nextInt(5));
    }

    private static int four(String text, int at) {
        int v = 0;
        for (int i = at; i < at + 4; i++) {
            v = v << 8 | (i < text.length() ? text.charAt(i) : 33);
        }
        return v;
    }

    private String expression(String names, int depth) {
        int what = depth <= 0 ? lot.nextInt(2) : lot.nextInt(8);
        String blank = lot.nextInt(5) == 0 ? "  ".substring(lot.nextInt(2)) : "";
        switch (what) {
            case 0: return blank + lot.nextInt(lot.nextInt(2) == 0 ? 10 : 12000);
            case 1: return blank + names.charAt(lot.nextInt(names.length()));
            case 2: return "!".repeat(1 + lot.nextInt(lot.nextInt(6) == 0 ? 9 : 2)) + expression(names, 0) + blank;
            case 3: {
                int many = 1 + lot.nextInt(lot.nextInt(6) == 0 ? 9 : 2);
                return "(".repeat(many) + expression(names, depth - 1) + blank + ")".repeat(many);
            }
            default: {
                String sign = String.valueOf("|&<=>+-*/+-*/".charAt(lot.nextInt(13)));
                return expression(names, depth - 1) + blank + sign + expression(names, depth - 1);
            }
        }
    }

    /** Tells hours that are right, but for one place now and then, and checks them. */
    private void tellHours() throws Exception {
        if (lot.nextInt(4) == 0) {
            call("keep");
        }
        if (model.image == null) {
            return;
        }
        int n = lot.nextInt(8) == 0 ? 30 : 1 + lot.nextInt(6);
        Model.State t = model.image.copied();
        int wrongAt = lot.nextInt(3 * n);
        int many = 2 * n + (lot.nextInt(4) == 0 ? lot.nextInt(3) - 1 : 0);
        for (int i = 0; i < many; i++) {
            if (i % 2 == 0) {
                t.anHour(true);
            }
            int v = i % 2 == 0 ? t.cell : t.together();
            call("tell", i == wrongAt ? v + 1 : v);
        }
        call("check", n);
    }
}
