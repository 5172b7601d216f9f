/** Promise 14: count. */
public final class CountTest {
    private static final String NINE = "d1:1a;d2:1a;d3:1a;d4:1a;d5:1a;d6:1a;d7:1a;d8:1a;d9:1a;";

    public static void main(String[] args) {
        countsTheLatestEdition();
        countsNoneWithoutOne();
        refusesUnknownWhats();
        Due.end();
    }

    private static void due(PlanText x, int... want) {
        for (int what = 0; what < want.length; what++) {
            Due.same("count " + what, x.count(what), want[what]);
        }
    }

    private static void countsTheLatestEdition() {
        Due.sentence("How many 0 editions, 1 plans, 2 defaults, 3 standby rows of the latest edition that was made");
        PlanText x = new PlanText();
        Due.read(x, "p1k1r0:1a;p2k1r0:1a;p3k1r0:1a;d1:1a;d2:1a;s[0-0]1:1a;", 9);
        due(x, 1, 3, 2, 1);
        // The latest made counts, also when its day is an earlier one.
        Due.read(x, "s[0-0]1:1a;".repeat(8), 5);
        due(x, 2, 0, 0, 8);
        Due.tape(x, "d1:1a;x");
        Due.notNow("wrong", () -> x.read(0));
        due(x, 2, 0, 0, 8);
        Due.tape(x, "d1:1a;");
        Due.outside("range", () -> x.read(10000));
        due(x, 2, 0, 0, 8);
        x.read(5);
        due(x, 3, 0, 1, 0);
        Due.read(x, NINE, 5);
        due(x, 4, 0, 9, 0);
        x.read(5);
        due(x, 5, 0, 0, 0);
        Due.read(x, "p7k1r0:1a;d1:1a;", 0);
        due(x, 6, 1, 1, 0);
        Due.noRoom("no room", () -> x.read(0));
        due(x, 6, 1, 1, 0);
        Due.tape(x, NINE);
        Due.noRoom("no room", () -> x.read(0));
        due(x, 6, 1, 1, 0);
    }

    private static void countsNoneWithoutOne() {
        Due.sentence("count: (0 without one)");
        PlanText x = new PlanText();
        due(x, 0, 0, 0, 0);
        Due.tape(x, NINE);
        due(x, 0, 0, 0, 0);
        Due.outside("range", () -> x.read(-1));
        due(x, 0, 0, 0, 0);
        Due.tape(x, "x");
        Due.notNow("wrong", () -> x.read(0));
        due(x, 0, 0, 0, 0);
    }

    private static void refusesUnknownWhats() {
        Due.sentence("count: Unknown: no such what");
        PlanText x = new PlanText();
        Due.read(x, "p1k1r0:1a;d1:1a;d2:1a;s[0-0]1:1a;", 0);
        for (int what : new int[] {-1, 4, 5, Integer.MIN_VALUE, Integer.MAX_VALUE}) {
            Due.unknown("count " + what, () -> x.count(what));
            Due.unknown("count " + what + " without an edition", () -> new PlanText().count(what));
        }
        due(x, 1, 1, 2, 1);
    }
}
