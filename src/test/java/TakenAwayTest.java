import java.util.Random;

/**
 * Promise 7 by its words: every set of readings is taken away in turn, and what
 * is left is asked for its states. A copy that has nothing left agrees with all.
 */
public final class TakenAwayTest {
    private static final int FORME = 2;
    private static final int MOST_READINGS = 10;

    private final Random dice;

    private TakenAwayTest(long seed) {
        dice = new Random(seed);
    }

    public static void main(String[] args) {
        slipsAreFewest("1", "2", "3", "4");
        slipsAreFewest("11", "12", "22");
        slipsAreFewest("1..", ".2.", "3.1", "32.");
        slipsAreFewest("111", "222", "121");
        slipsAreFewest("1", "1", "2", "2", "3", "", "", "", "3");
        for (long seed = 0; seed < 80; seed++) {
            slipsAreFewest(new TakenAwayTest(seed).copies());
        }
        Check.finish();
    }

    private String[] copies() {
        String[] rows = new String[2 + dice.nextInt(8)];
        int letters = 2 + dice.nextInt(2);
        int left = MOST_READINGS;
        for (int c = 0; c < rows.length; c++) {
            StringBuilder row = new StringBuilder();
            for (int p = 0; p < 3; p++) {
                boolean has = left > 0 && dice.nextInt(5) < 2;
                row.append(has ? (char) ('0' + dice.nextInt(letters)) : '.');
                left -= has ? 1 : 0;
            }
            rows[c] = row.toString();
        }
        return rows;
    }

    private static void slipsAreFewest(String... rows) {
        String all = String.join("/", rows);
        int readings = all.replaceAll("[./]", "").length();
        int[] fewest = new int[10];
        java.util.Arrays.fill(fewest, readings);
        for (int taken = 0; taken < 1 << readings; taken++) {
            int states = Copies.of(FORME, without(all, taken).split("/", -1)).states(FORME);
            for (int n = Math.max(1, states); n <= 9; n++) {
                fewest[n] = Math.min(fewest[n], Integer.bitCount(taken));
            }
        }
        PressSheets x = Copies.of(FORME, rows);
        for (int n = 1; n <= 9; n++) {
            Check.due(all + ": slips for " + n, x.slips(FORME, n), fewest[n]);
        }
    }

    /** The rows without the readings of this set, bit i being the i-th of all. */
    private static String without(String all, int taken) {
        StringBuilder left = new StringBuilder(all);
        int reading = 0;
        for (int i = 0; i < left.length(); i++) {
            if (Character.isDigit(left.charAt(i))) {
                if ((taken >> reading & 1) != 0) {
                    left.setCharAt(i, '.');
                }
                reading++;
            }
        }
        return left.toString();
    }
}
