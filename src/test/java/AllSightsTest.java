/**
 * Every house of five parlours by its sights, with plants in every set of them: COVER, ROUND and CHOICE found by trying
 * everything in the order that the document tells.
 */
public final class AllSightsTest extends Play {
    private static final int PARLOURS = 5;
    private static final int ALL = 31;
    private static final int HOUSES = 1024;
    /** Far more steps than a way through five parlours needs. */
    private static final int MOST_STEPS = 12;

    private final int[] sight = new int[PARLOURS];
    private final int[] step = new int[MOST_STEPS + 1];
    private final String told;
    private int plants;

    private AllSightsTest(int sights) {
        StringBuilder text = new StringBuilder();
        for (int l = 0; l < PARLOURS; l++) {
            text.append("parlour ").append(name(l)).append(';');
        }
        int bit = 0;
        for (int l = 0; l < PARLOURS; l++) {
            for (int m = l + 1; m < PARLOURS; m++, bit++) {
                if (has(sights, bit)) {
                    text.append("sight ").append(name(l)).append(' ').append(name(m)).append(';');
                    sight[l] |= 1 << m;
                    sight[m] |= 1 << l;
                }
            }
        }
        told = text.toString();
    }

    private static char name(int l) {
        return (char) ('a' + l);
    }

    private static boolean has(int bits, int place) {
        return (bits >> place & 1) == 1;
    }

    private ParlourLeaves withPlantsIn(int parlours) {
        plants = parlours;
        StringBuilder text = new StringBuilder(told);
        for (int l = 0; l < PARLOURS; l++) {
            if (has(parlours, l)) {
                text.append("plant p").append(name(l)).append(' ').append(name(l)).append(" 1;");
            }
        }
        return house(text.toString());
    }

    private int seenFrom(int parlours) {
        int seen = parlours;
        for (int l = 0; l < PARLOURS; l++) {
            seen |= has(parlours, l) ? sight[l] : 0;
        }
        return seen;
    }

    private void cover(ParlourLeaves x) {
        int least = ALL;
        for (int set = ALL; set >= 0; set--) {
            if (seenFrom(set) == ALL && Integer.bitCount(set) <= Integer.bitCount(least)) {
                least = set;
            }
        }
        due(told + " cover()", x.cover(), Integer.bitCount(least));
        due(told + " covering()", x.covering(), least);
    }

    /** Whether just so many steps more do, the least parlour tried first. */
    private boolean canGo(int l, int been, int k, int steps) {
        if (k == steps) {
            return (plants & ~been) == 0;
        }
        for (int m = 0; m < PARLOURS; m++) {
            step[k] = m;
            if (has(sight[l], m) && canGo(m, been | 1 << m, k + 1, steps)) {
                return true;
            }
            step[k] = NONE;
        }
        return false;
    }

    private int stepsFrom(int l) {
        int reached = 1 << l;
        for (int k = 0; k < PARLOURS; k++) {
            reached |= seenFrom(reached);
        }
        for (int steps = 0; (plants & ~reached) == 0 && steps <= MOST_STEPS; steps++) {
            if (canGo(l, 1 << l, 0, steps)) {
                return steps;
            }
        }
        return NONE;
    }

    private void round(ParlourLeaves x, int l) {
        int steps = stepsFrom(l);
        String call = told + " plants in " + plants + ", round(" + l + ")";
        due(call, x.round(l), steps);
        for (int k = 0; k < steps; k++) {
            due(call + " roundAt(" + k + ")", x.roundAt(k), step[k]);
        }
        if (steps != NONE) {
            due(call + " roundAt(" + steps + ")", x.roundAt(steps), NONE);
        }
    }

    /** How many see what the family does, and the parlour: the fewer the better, then the less. */
    private int family(int[] stand) {
        int best = Integer.MAX_VALUE;
        for (int l = PARLOURS - 1; l >= 0; l--) {
            int seeing = 0;
            for (int p = 0; p < stand.length; p++) {
                seeing += has(seenFrom(1 << stand[p]), l) ? 1 : 0;
            }
            best = Math.min(best, seeing * PARLOURS + l);
        }
        return best;
    }

    private void choice(ParlourLeaves x) {
        int[] stand = new int[Integer.bitCount(plants)];
        for (int l = 0, p = 0; l < PARLOURS; l++) {
            if (has(plants, l)) {
                stand[p++] = l;
            }
        }
        int best = family(stand);
        int plant = NONE;
        int whither = NONE;
        for (int p = 0; p < stand.length; p++) {
            int home = stand[p];
            for (int l = 0; l < PARLOURS; l++) {
                stand[p] = l;
                if (l != home && family(stand) / PARLOURS > best / PARLOURS) {
                    best = family(stand);
                    plant = p;
                    whither = l;
                }
            }
            stand[p] = home;
        }
        String call = told + " plants in " + plants + ", choice()";
        due(call, x.choice(), best / PARLOURS);
        due(call + " chosen(0)", x.chosen(0), plant);
        due(call + " chosen(1)", x.chosen(1), whither);
        due(call + " chosen(2)", x.chosen(2), best % PARLOURS);
    }

    public static void main(String[] args) {
        for (int sights = 0; sights < HOUSES; sights++) {
            AllSightsTest all = new AllSightsTest(sights);
            for (int parlours = 0; parlours <= ALL; parlours++) {
                ParlourLeaves x = all.withPlantsIn(parlours);
                x.days(1);
                says("COVER: the fewest PARLOURS such that, if one PLANT that is not blind stood in each, all PARLOURS would be seen;"
                    + " of like ones the least as bits.");
                all.cover(x);
                says("the first of these ways: step by step the least PARLOUR");
                for (int l = 0; l < PARLOURS; l++) {
                    all.round(x, l);
                }
                says("of like ones of the maid's: none, then the least PLANT, then the least PARLOUR; of the family's: the least");
                all.choice(x);
            }
        }
        CHECK.finish();
    }
}
