/** Makes objects on which the copies of one forme have been read. */
final class Copies {
    private Copies() {
    }

    /** A row a copy, a sign a place; '.' is no reading. */
    static PressSheets of(int forme, String... rows) {
        PressSheets x = new PressSheets();
        for (int c = 0; c < rows.length; c++) {
            for (int p = 0; p < rows[c].length(); p++) {
                if (rows[c].charAt(p) != '.') {
                    Check.due("read", x.read(c, forme, p, rows[c].charAt(p) - '0'), Check.NONE);
                }
            }
        }
        return x;
    }
}
