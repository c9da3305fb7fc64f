import java.util.Arrays;

/**
 * Gangs of up to six diggers and eight spades, which are too large for Slow: LONGEST and BEGINS by
 * flows from diggers to spades, MOST by trying spade by spade how often each digger has thrown.
 */
public final class WideTest {
    private static final Check c = new Check("WideTest");
    private static long seed = 20261120;

    public static void main(String[] args) {
        c.says("LONGEST, BEGINS, MOST of gangs of many");
        for (int run = 0; run < 200; run++) {
            gang(run);
        }
        c.close();
    }

    private static int below(int bound) {
        seed = seed * 6364136223846793005L + 1442695040888963407L;
        return (int) ((seed >>> 33) % bound);
    }

    private static void gang(int run) {
        int diggers = run % 3 == 0 ? 6 : 3 + below(4);
        int spades = run % 2 == 0 ? 8 : 5 + below(4);
        int[] strength = new int[diggers];
        int[] sharp = new int[spades];
        StringBuilder text = new StringBuilder();
        for (int d = 0; d < diggers; d++) {
            strength[d] = 1 + below(9);
            text.append("digger").append(strength[d]).append(" 1").append(below(3) == 0 ? "left;" : ";");
        }
        for (int s = 0; s < spades; s++) {
            sharp[s] = 1 + below(9);
            int whom = run % 5 == 0 ? 0 : below(8);
            text.append("spade").append(sharp[s]).append(whom == 1 ? "left;" : whom == 2 ? "right;" : ";");
        }
        SpadeRings x = Check.gang(text.toString());
        for (int turn = 0; turn < 3; turn++) {
            for (int i = 0; i < below(12); i++) {
                x.throwWith(below(diggers), below(spades));
                if (below(2) == 0) {
                    x.ends();
                }
            }
            if (below(4) == 0) {
                x.breaks(below(spades));
            }
            // The states of most() grow fast with the rounds.
            int rounds = run % 10 == 0 && turn == 1 ? 6 : 3;
            alike(run + "." + turn + " " + text, x, strength, sharp, rounds);
        }
    }

    private static void alike(String name, SpadeRings x, int[] strength, int[] sharp, int rounds) {
        int[] open = new int[strength.length];
        for (int d = 0; d < open.length; d++) {
            for (int s = 0; s < sharp.length; s++) {
                open[d] |= x.may(d, s) << s;
            }
        }
        int longest = longest(open);
        c.due(name + " longest", x.longest(), longest);
        int[] row = new int[open.length];
        Arrays.fill(row, SpadeRings.NONE);
        if (longest > 0) {
            c.is(name + " has a first row", firstRow(open, longest, 0, 0, row));
        }
        for (int d = 0; d < row.length; d++) {
            c.due(name + " begins " + d, x.begins(d), row[d]);
        }
        for (int r = 1; r <= rounds; r++) {
            c.due(name + " most " + r, x.most(r), most(open, strength, sharp, r));
        }
    }

    // ---- so many rounds: each digger has a throw for each, no spade more throws than rounds

    private static int longest(int[] open) {
        int rounds = 0;
        while (lasts(open, rounds + 1)) {
            rounds++;
        }
        return rounds;
    }

    private static boolean lasts(int[] open, int rounds) {
        int[] taken = new int[open.length];
        for (int d = 0; d < open.length; d++) {
            for (int i = 0; i < rounds; i++) {
                if (!gives(open, taken, rounds, d, new boolean[8])) {
                    return false;
                }
            }
        }
        return true;
    }

    /** One spade more for a digger, if need be by another digger's letting one go. */
    private static boolean gives(int[] open, int[] taken, int rounds, int d, boolean[] seen) {
        for (int s = 0; s < 8; s++) {
            if (seen[s] || (open[d] >> s & 1) == 0 || (taken[d] >> s & 1) != 0) {
                continue;
            }
            seen[s] = true;
            int load = 0;
            for (int with : taken) {
                load += with >> s & 1;
            }
            if (load < rounds) {
                taken[d] |= 1 << s;
                return true;
            }
            for (int other = 0; other < open.length; other++) {
                if (other != d && (taken[other] >> s & 1) != 0 && gives(open, taken, rounds, other, seen)) {
                    taken[other] &= ~(1 << s);
                    taken[d] |= 1 << s;
                    return true;
                }
            }
        }
        return false;
    }

    /** All rows in their order, till behind one of them the rounds that are left can follow. */
    private static boolean firstRow(int[] open, int rounds, int d, int used, int[] row) {
        if (d == open.length) {
            int[] behind = open.clone();
            for (int i = 0; i < row.length; i++) {
                behind[i] &= ~(1 << row[i]);
            }
            return rounds == 1 || lasts(behind, rounds - 1);
        }
        for (int s = 0; s < 8; s++) {
            if ((open[d] >> s & 1) != 0 && (used >> s & 1) == 0) {
                row[d] = s;
                if (firstRow(open, rounds, d + 1, used | 1 << s, row)) {
                    return true;
                }
            }
        }
        return false;
    }

    // ---- the most, spade by spade: by how often each digger has thrown (a figure each)

    private static int most(int[] open, int[] strength, int[] sharp, int r) {
        int base = r + 1;
        int states = 1;
        for (int d = 0; d < open.length; d++) {
            states *= base;
        }
        int[] best = new int[states];
        Arrays.fill(best, -1);
        best[0] = 0;
        for (int s = 0; s < sharp.length; s++) {
            int[] next = new int[states];
            Arrays.fill(next, -1);
            for (int state = 0; state < states; state++) {
                if (best[state] >= 0) {
                    throwsWith(open, strength, s, sharp[s], r, new int[] {state, best[state], 0, 0}, next);
                }
            }
            best = next;
        }
        int most = 0;
        for (int one : best) {
            most = Math.max(most, one);
        }
        return most;
    }

    /** Where we are: the state, its sum, the next digger, how many threw with this spade. */
    private static void throwsWith(int[] open, int[] strength, int s, int sharp, int r, int[] at, int[] next) {
        int d = at[2];
        if (d == open.length) {
            next[at[0]] = Math.max(next[at[0]], at[1]);
            return;
        }
        throwsWith(open, strength, s, sharp, r, new int[] {at[0], at[1], d + 1, at[3]}, next);
        int figure = 1;
        for (int i = 0; i < d; i++) {
            figure *= r + 1;
        }
        boolean may = (open[d] >> s & 1) != 0 && at[3] < r && at[0] / figure % (r + 1) < r;
        if (may) {
            int[] on = {at[0] + figure, at[1] + strength[d] * sharp, d + 1, at[3] + 1};
            throwsWith(open, strength, s, sharp, r, on, next);
        }
    }
}
