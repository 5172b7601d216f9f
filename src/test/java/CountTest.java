/** Promise 14: count. */
public final class CountTest {
    public static void main(String[] args) {
        PlanText x = new PlanText();
        due(x, 0, 0, 0, 0);
        Due.read(x, "p1k1r0:1a;p2k1r0:1a;p3k1r0:1a;d1:1a;d2:1a;s[0-0]1:1a;", 9);
        due(x, 1, 3, 2, 1);
        Due.read(x, "s[0-0]1:1a;".repeat(8), 5);
        due(x, 2, 0, 0, 8);
        Due.tape(x, "d1:1a;x");
        Due.refused("wrong", IllegalStateException.class, () -> x.read(0));
        due(x, 2, 0, 0, 8);
        Due.read(x, "d1:1a;d2:1a;d3:1a;d4:1a;d5:1a;d6:1a;d7:1a;d8:1a;d9:1a;", 5);
        due(x, 3, 0, 9, 0);
        x.read(5);
        due(x, 4, 0, 0, 0);
        Due.read(x, "p7k1r0:1a;", 0);
        Due.read(x, "p7k1r0:1a;d1:1a;", 0);
        due(x, 6, 1, 1, 0);
        Due.refused("no room", UnsupportedOperationException.class, () -> x.read(0));
        due(x, 6, 1, 1, 0);
        int[] wrong = {-1, 4, Integer.MIN_VALUE, Integer.MAX_VALUE};
        for (int what : wrong) {
            Due.unknown("count " + what, () -> x.count(what));
        }
        Due.end();
    }

    private static void due(PlanText x, int... want) {
        for (int what = 0; what < want.length; what++) {
            Due.same("count " + what, x.count(what), want[what]);
        }
    }
}
