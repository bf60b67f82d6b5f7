/** Maps drawn as texts: one text a row, '~' for water. */
final class Picture {
    private Picture() {
    }

    static void draw(MovingBanks x, int year, String... rows) {
        for (int y = 0; y < rows.length; y++) {
            int bits = 0;
            for (int c = 0; c < rows[y].length(); c++) {
                bits |= rows[y].charAt(c) == '~' ? 1 << c : 0;
            }
            x.water(y, bits);
        }
        if (x.map(year) < 0) {
            throw new IllegalStateException("the test's own map of " + year + " was refused");
        }
    }
}
