/** Promise 38 for every weight, with all rows tried in their order. */
public final class StonesTest {
    private static final int MIDDLE = 400;

    /** Weights that can be laid against, as flags around the middle. */
    private static boolean[] with(boolean[] sums, int stone, boolean both) {
        boolean[] more = sums.clone();
        for (int i = 0; i < sums.length; i++) {
            if (sums[i]) {
                more[i + stone] = true;
                if (both) {
                    more[i - stone] = true;
                }
            }
        }
        return more;
    }

    private static boolean search(int[] row, int at, boolean[] sums, int w, boolean both) {
        if (at == row.length) {
            for (int x = 1; x <= w; x++) {
                if (!sums[MIDDLE + x]) {
                    return false;
                }
            }
            return true;
        }
        int reached = 0;
        for (int x = 1; x <= w; x++) {
            reached += sums[MIDDLE + x] ? 1 : 0;
        }
        if (at > 0 && at == row.length - 1 && 3 * (reached + 1) < w) {
            return false;
        }
        for (int stone = at == 0 ? 1 : row[at - 1]; stone <= 2 * w; stone++) {
            row[at] = stone;
            if (search(row, at + 1, with(sums, stone, both), w, both)) {
                return true;
            }
        }
        return false;
    }

    private static int[] first(int w, boolean both) {
        for (int size = 1;; size++) {
            int most = both ? (int) (Math.pow(3, size) - 1) / 2 : (1 << size) - 1;
            int[] row = new int[size];
            boolean[] none = new boolean[2 * MIDDLE + 1];
            none[MIDDLE] = true;
            if (most >= w && search(row, 0, none, w, both)) {
                return row;
            }
        }
    }

    public static void main(String[] args) {
        int wrong = 0;
        for (int w = 1; w <= 40; w++) {
            HeavierRow x = new HeavierRow();
            for (int both = 0; both < 2; both++) {
                int[] row = first(w, both == 1);
                boolean same = x.stones(w, both == 1) == row.length && x.about(6) == row.length;
                for (int i = 0; i <= row.length; i++) {
                    same &= x.lies(i) == (i < row.length ? row[i] : HeavierRow.NONE);
                }
                if (!same) {
                    wrong++;
                    System.out.println("stones(" + w + ", " + (both == 1) + ") should be " + java.util.Arrays.toString(row));
                }
            }
        }
        System.out.println("StonesTest: " + wrong + " wrong");
        if (wrong != 0) {
            System.exit(1);
        }
    }
}
