import java.util.Arrays;
import java.util.List;

/** Two objects made alike: whatever a call changed on the one shows beside the other. */
final class Twins {
    private static final List<Look> LOOKS = List.of(
        Twins::lookAtBand, Twins::lookAtSheets, Twins::lookAtImage, Twins::lookAtRows);

    private Twins() {
    }

    interface Call {
        int on(ThirstLead x);
    }

    interface Made {
        ThirstLead it();
    }

    interface Look {
        int[] at(ThirstLead x);
    }

    /** The call answers this, and nothing is otherwise than without it. */
    static void changesNothing(String name, Made made, Call call, int want) {
        changesAs(name, made, call, want, x -> 0);
    }

    /** The call answers this, and all is as behind another call. */
    static void changesAs(String name, Made made, Call call, int want, Call other) {
        for (int i = 0; i < LOOKS.size(); i++) {
            ThirstLead one = made.it();
            ThirstLead two = made.it();
            Due.is(name, call.on(one), want);
            other.on(two);
            boolean alike = Arrays.equals(LOOKS.get(i).at(one), LOOKS.get(i).at(two));
            Due.holds(name + " leaves what look " + i + " sees", alike);
        }
    }

    private static int[] lookAtBand(ThirstLead x) {
        int[] seen = new int[250];
        int at = 0;
        for (int i = 0; i < 10; i++) {
            for (int k = 0; k < 10; k++) {
                seen[at++] = x.told(i, k);
            }
            seen[at++] = x.fine(i);
            seen[at++] = x.count(i);
        }
        for (int i = 0; i < 7; i++) {
            seen[at++] = x.band(i);
        }
        for (int i = 0; i < 14; i++) {
            seen[at++] = x.textTold(i, 0);
            seen[at++] = x.textTold(i, 1);
        }
        for (int i = 0; i < 3; i++) {
            seen[at++] = x.why(i);
        }
        seen[at++] = x.fee();
        for (int i = 0; i < 24; i++) {
            seen[at++] = x.water(i, 0);
        }
        return seen;
    }

    private static int[] lookAtSheets(ThirstLead x) {
        int[] seen = new int[250];
        int at = 0;
        for (int i = 0; i < 5; i++) {
            for (int k = 0; k < 25; k++) {
                seen[at++] = x.item(i, k);
            }
            seen[at++] = x.ask(i, 0);
            seen[at++] = x.rest(i, 1000003);
            seen[at++] = x.lay(i, 0, 0);
        }
        for (int i = 0; i < 4; i++) {
            seen[at++] = x.lay(0, 2, i);
            for (int k = 0; k < 25; k++) {
                seen[at++] = x.item(0, k);
            }
        }
        return seen;
    }

    private static int[] lookAtImage(ThirstLead x) {
        int kept = x.back();
        int[] seen = lookAtBand(x);
        seen[seen.length - 1] = kept;
        return seen;
    }

    /** The numbers that wait and the tape, which are used up by what looks at them. */
    private static int[] lookAtRows(ThirstLead x) {
        int[] rows = {x.count(7), x.count(8), x.check(2), x.text(), x.textTold(4, 0), x.textTold(4, 1), x.fee()};
        int[] seen = lookAtBand(x);
        System.arraycopy(rows, 0, seen, seen.length - rows.length, rows.length);
        return seen;
    }
}
