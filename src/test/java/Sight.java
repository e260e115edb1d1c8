/** All that can be seen of a campaign without a change, as one text. */
final class Sight {
    private Sight() {
    }

    static String of(HexCampaign x) {
        StringBuilder all = new StringBuilder();
        for (int i = 0; i < 69; i++) {
            all.append(x.text(i));
        }
        for (int what = 0; what < 8; what++) {
            all.append(" count ").append(x.count(what));
        }
        for (int side = 0; side < 2; side++) {
            for (int what = 0; what < 6; what++) {
                all.append(" account ").append(x.account(side, what));
            }
            for (int what = 0; what < 5; what++) {
                all.append(" cells ").append(x.cells(side, what));
            }
            all.append(" known ").append(x.known(side));
        }
        for (int unit = 0; unit < 16; unit++) {
            appendUnit(all, x, unit);
        }
        return all.append(report(x)).toString();
    }

    private static void appendUnit(StringBuilder all, HexCampaign x, int unit) {
        try {
            for (int what = 0; what < 10; what++) {
                all.append(what == 0 ? " unit " : ",").append(x.unit(unit, what));
            }
        } catch (IndexOutOfBoundsException e) {
            all.append(" no unit");
        }
    }

    static String report(HexCampaign x) {
        StringBuilder all = new StringBuilder();
        try {
            for (int level = 0; level < 9; level++) {
                all.append(" level ").append(x.report(level, 0)).append(':').append(x.report(level, 1));
            }
        } catch (java.util.NoSuchElementException e) {
            all.append(" end");
        }
        return all.toString();
    }
}
