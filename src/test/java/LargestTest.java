import java.util.ArrayList;
import java.util.Arrays;
import java.util.List;

/**
 * LIVES of up to 16 PIECES, VISITATIONS of up to 8 LIVINGS, MATCHES of up to 8 fields in both years: what Oracle is too
 * slow for, reckoned here in other ways than the class does.
 */
public final class LargestTest {
    private static final Check C = new Check();
    private static final int NONE = Check.NONE, NOT = Check.NOT;
    private static final int RUNS = Integer.getInteger("runs", 60);
    private static final int FAR = 1000000;

    private static long seed = 20240607;

    public static void main(String[] args) {
        for (int run = 0; run < RUNS; run++) {
            lives(run);
            plan(run);
            match(run);
        }
        C.end();
    }

    private static int upTo(int n) {
        seed = seed * 6364136223846793005L + 1442695040888963407L;
        return (int) ((seed >>> 33) % n);
    }

    // ---- lives

    private static void lives(int run) {
        DioceseBook b = new DioceseBook();
        int n = 17 - Math.min(16, 1 + upTo(6) * upTo(3));
        int span = 2 + upTo(40);
        boolean[][] behind = new boolean[n][n];
        int[][] piece = new int[n][];
        for (int i = 0; i < n; i++) {
            int from = upTo(span);
            piece[i] = new int[] {upTo(5) == 0 ? 1 : 0, upTo(31) - 15, upTo(21) - 10, from,
                from + (upTo(2) == 0 ? 0 : upTo(1 + span / 6))};
            int[] p = piece[i];
            C.due("piece of run " + run, b.piece(p[0], p[1], p[2], p[3], p[4]), i);
        }
        for (int i = 0; i < n; i++) {
            for (int k = 0; k < n; k++) {
                behind[i][k] = i != k && comesBehind(piece[i], piece[k], i < k);
            }
        }
        byte[][] most = new byte[n + 1][1 << n];
        for (byte[] row : most) {
            Arrays.fill(row, (byte) -1);
        }
        C.due("rows of run " + run, b.lives(NONE), n - most(behind, most, 0, 0));
        int taken = 0;
        for (int i = 0; i < n; i++) {
            int want = least(behind, most, i, taken);
            taken |= want == NONE ? 0 : 1 << want;
            C.due("behind " + i + " of run " + run, b.lives(i), want);
        }
    }

    private static boolean comesBehind(int[] a, int[] b, boolean less) {
        boolean oneDay = a[3] == a[4] && b[3] == b[4] && a[3] == b[3];
        int miles = Math.abs(a[1] - b[1]) + Math.abs(a[2] - b[2]);
        return a[0] == b[0] && (oneDay ? less : a[4] <= b[3]) && 20 * (b[3] - a[4]) >= miles;
    }

    /** How many PIECES from i on can have one behind them that is not taken yet, each choice tried. */
    private static int most(boolean[][] behind, byte[][] known, int i, int taken) {
        if (i == behind.length) {
            return 0;
        }
        if (known[i][taken] < 0) {
            int best = most(behind, known, i + 1, taken);
            for (int k = 0; k < behind.length; k++) {
                if (behind[i][k] && (taken >> k & 1) == 0) {
                    best = Math.max(best, 1 + most(behind, known, i + 1, taken | 1 << k));
                }
            }
            known[i][taken] = (byte) best;
        }
        return known[i][taken];
    }

    private static int least(boolean[][] behind, byte[][] known, int i, int taken) {
        int all = most(behind, known, i, taken);
        for (int k = 0; k < behind.length; k++) {
            if (behind[i][k] && (taken >> k & 1) == 0 && 1 + most(behind, known, i + 1, taken | 1 << k) == all) {
                return k;
            }
        }
        return NONE;
    }

    // ---- visitations

    private static int[][] place;
    private static int[] ride;
    private static int bestMiles;
    private static List<Integer> best;

    private static void plan(int run) {
        DioceseBook b = new DioceseBook();
        place = new int[12][];
        int near = 3 + upTo(48);
        for (int l = 0; l < 12; l++) {
            place[l] = new int[] {upTo(2 * near + 1) - near, upTo(2 * near + 1) - near};
            C.due("living of run " + run, b.living(place[l][0], place[l][1], 0), l);
        }
        int set = 0;
        for (int size = 5 + upTo(4); Integer.bitCount(set) < size;) {
            set |= 1 << upTo(12);
        }
        ride = new int[1 << 12];
        for (int part = set; part > 0; part = part - 1 & set) {
            ride[part] = rideOf(part, 0, 0);
        }
        int farthest = 1;
        for (int l = 0; l < 12; l++) {
            farthest = Math.max(farthest, ride[set & 1 << l]);
        }
        for (int miles : new int[] {farthest, farthest + upTo(40), farthest + upTo(300), 999}) {
            best = null;
            part(set, miles, new ArrayList<>(), 0);
            String what = "plan " + set + " " + miles + " of run " + run;
            C.due(what + ": days", b.plan(set, miles, NONE), best.size());
            C.due(what + ": miles", b.plan(set, miles, -2), bestMiles);
            for (int day = 0; day <= best.size(); day++) {
                C.due(what + ": " + day, b.plan(set, miles, day), day < best.size() ? best.get(day) : 0);
            }
        }
        if (farthest > 1) {
            C.due("plan " + set + " of run " + run + ", too far", b.plan(set, farthest - 1, NONE), NOT);
        }
    }

    /** From a place through all of a SET, in every order, and back to THE SEE. */
    private static int rideOf(int left, int x, int y) {
        if (left == 0) {
            return Math.abs(x) + Math.abs(y);
        }
        int least = FAR;
        for (int l = 0; l < 12; l++) {
            if ((left >> l & 1) == 1) {
                least = Math.min(least, Math.abs(place[l][0] - x) + Math.abs(place[l][1] - y)
                    + rideOf(left ^ 1 << l, place[l][0], place[l][1]));
            }
        }
        return least;
    }

    /** Every way to part a SET, the part with the lowest LIVING that is left first; its DAYS are then put in order. */
    private static void part(int left, int miles, List<Integer> days, int ridden) {
        if (left == 0) {
            List<Integer> sorted = new ArrayList<>(days);
            sorted.sort(Integer::compare);
            if (best == null || isBetter(sorted, ridden)) {
                best = sorted;
                bestMiles = ridden;
            }
            return;
        }
        int low = Integer.lowestOneBit(left);
        int others = left ^ low;
        for (int more = others; ; more = more - 1 & others) {
            if (ride[low | more] <= miles) {
                days.add(low | more);
                part(others ^ more, miles, days, ridden + ride[low | more]);
                days.remove(days.size() - 1);
            }
            if (more == 0) {
                return;
            }
        }
    }

    private static boolean isBetter(List<Integer> sorted, int ridden) {
        if (sorted.size() != best.size()) {
            return sorted.size() < best.size();
        }
        if (ridden != bestMiles) {
            return ridden < bestMiles;
        }
        for (int k = 0; k < sorted.size(); k++) {
            if (!sorted.get(k).equals(best.get(k))) {
                return sorted.get(k) < best.get(k);
            }
        }
        return false;
    }

    // ---- terriers

    private static void match(int run) {
        DioceseBook b = new DioceseBook();
        b.living(0, 0, 0);
        int[][][] field = {new int[8 - upTo(3)][], new int[8 - upTo(3)][]};
        int most = 4 + upTo(2) * 40 + upTo(40);
        for (int year = 0; year < 2; year++) {
            for (int k = 0; k < field[year].length; k++) {
                int[] f = {upTo(3), 1 + upTo(most), upTo(3)};
                field[year][k] = f;
                C.due("field of run " + run, b.field(0, year, f[0], f[1], f[2]), k);
            }
        }
        int olds = field[0].length;
        int[][] cost = new int[olds + 1][1 << field[1].length];
        for (int[] row : cost) {
            Arrays.fill(row, NONE);
        }
        C.due("cost of run " + run, b.match(0, NONE), cost(field, cost, 0, 0));
        int used = 0;
        for (int i = 0; i < olds; i++) {
            int want = NONE;
            for (int j = 0; j < field[1].length && want == NONE; j++) {
                if ((used >> j & 1) == 0 && pair(field[0][i], field[1][j]) + cost(field, cost, i + 1, used | 1 << j)
                    == cost(field, cost, i, used)) {
                    want = j;
                }
            }
            used |= want == NONE ? 0 : 1 << want;
            C.due("partner of " + i + " of run " + run, b.match(0, i), want);
        }
        C.due("no such field of run " + run, b.match(0, olds), NONE);
    }

    private static int cost(int[][][] field, int[][] known, int i, int used) {
        if (known[i][used] >= 0) {
            return known[i][used];
        }
        int least;
        if (i == field[0].length) {
            least = 0;
            for (int j = 0; j < field[1].length; j++) {
                least += (used >> j & 1) == 1 ? 0 : alone(field[1][j]);
            }
        } else {
            least = alone(field[0][i]) + cost(field, known, i + 1, used);
            for (int j = 0; j < field[1].length; j++) {
                if ((used >> j & 1) == 0) {
                    least = Math.min(least, pair(field[0][i], field[1][j]) + cost(field, known, i + 1, used | 1 << j));
                }
            }
        }
        known[i][used] = least;
        return least;
    }

    private static int alone(int[] f) {
        return 10 + f[1] / 10;
    }

    private static int pair(int[] f, int[] g) {
        return Math.abs(f[1] - g[1]) + (f[0] == g[0] ? 0 : 7) + (f[2] == g[2] ? 0 : 3);
    }
}
