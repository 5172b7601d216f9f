/** Promise 11: lacks. */
public final class LacksTest {
    public static void main(String[] args) {
        PlanText x = Due.with("p40k1r0:2a,1b;p3k1r0:3a/b/c;p5k9r0:1d;p6k1r0:9h/g,9h/g;d1:9e;s[0-23]1:9f;");
        due(x, 3, 5, 6, 40);
        x.town(0, 2);
        due(x, 3, 5, 6, 40);
        x.town(1, 1);
        due(x, 5, 6);
        x.town(1, 0);
        x.town(2, 1);
        due(x, 5, 6, 40);
        x.town(2, 0);
        due(x, 3, 5, 6, 40);
        x.town(3, 99);
        due(x, 3, 6, 40);
        x.town(7, 4);
        x.town(6, 4);
        due(x, 3, 6, 40);
        // Each need is held against the whole town: the other need takes nothing from it.
        x.town(6, 5);
        due(x, 3, 40);
        x.town(0, 3);
        x.town(1, 1);
        due(x);
        refuses();
        Due.end();
    }

    private static void due(PlanText x, int... lacking) {
        for (int i = 0; i < lacking.length; i++) {
            Due.same("lacks " + i, x.lacks(0, i), lacking[i]);
        }
        Due.same("no more", x.lacks(0, lacking.length), -1);
    }

    private static void refuses() {
        PlanText x = new PlanText();
        Due.read(x, "p1k1r0:1a;", 3);
        Due.outside("i -1", () -> x.lacks(3, -1));
        Due.outside("the least i", () -> x.lacks(3, Integer.MIN_VALUE));
        Due.outside("day -1", () -> x.lacks(-1, 0));
        Due.outside("day 10000", () -> x.lacks(10000, 0));
        Due.same("a day without an edition", x.lacks(2, 0), -1);
        Due.same("a day with one", x.lacks(9999, 0), 1);
        Due.same("far behind", x.lacks(9999, Integer.MAX_VALUE), -1);
    }
}
