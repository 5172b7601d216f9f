/** Promise 6: plan. */
public final class PlanTest {
    public static void main(String[] args) {
        fits();
        chooses();
        refuses();
        Due.end();
    }

    private static void fits() {
        PlanText x = Due.with("p1k1@7#10-20r0:1a;p2k2[22-5]r0:1a;p3k3[5-22]r0:1a;p4k4[7-7]r0:1a;p5k5@99#999-999[0-23]r0:1a;");
        Due.same("kind", x.plan(6, 7, 15, 0, 0), -1);
        Due.same("street", x.plan(1, 8, 15, 0, 0), -1);
        Due.same("ahead of the houses", x.plan(1, 7, 9, 0, 0), -1);
        Due.same("first house", x.plan(1, 7, 10, 0, 0), 1);
        Due.same("last house", x.plan(1, 7, 20, 23, 0), 1);
        Due.same("behind the houses", x.plan(1, 7, 21, 0, 0), -1);
        for (int hour = 0; hour < 24; hour++) {
            Due.same("through midnight", x.plan(2, 1, 1, hour, 0), hour >= 22 || hour <= 5 ? 2 : -1);
            Due.same("by day", x.plan(3, 99, 999, hour, 0), hour >= 5 && hour <= 22 ? 3 : -1);
            Due.same("one hour", x.plan(4, 1, 1, hour, 0), hour == 7 ? 4 : -1);
            Due.same("all hours", x.plan(5, 99, 999, hour, 0), 5);
        }
    }

    private static void chooses() {
        PlanText x = Due.with("p9k1r3:1a;p3k1r3:1a;p1k1r2:1a;p20k1@5#1-9r9:1a;p2k1@5#5-9[3-3]r9:1a;d1:1a;d2:1b;d3:1c;p7k3@1#1-1r0:1a;");
        Due.same("highest rank, then lowest number", x.plan(1, 1, 1, 1, 0), 3);
        Due.same("rank ahead of number", x.plan(1, 5, 1, 1, 0), 20);
        Due.same("rank, then number", x.plan(1, 5, 5, 3, 0), 2);
        Due.same("but not at this hour", x.plan(1, 5, 5, 4, 0), 20);
        Due.same("the default", x.plan(2, 1, 1, 1, 0), 0);
        Due.same("the default when no plan of the kind fits", x.plan(3, 1, 2, 1, 0), 0);
        Due.same("a plan ahead of the default", x.plan(3, 1, 1, 1, 0), 7);
        Due.same("none", x.plan(4, 1, 1, 1, 0), -1);
        Due.same("the greatest number", Due.with("p1k1r0:1a;p40k1r9:1a;").plan(1, 1, 1, 1, 0), 40);
        PlanText y = new PlanText();
        Due.read(y, "p1k1r0:1a;", 5);
        Due.same("a day ahead of all editions", y.plan(1, 1, 1, 1, 4), -1);
        Due.same("the day", y.plan(1, 1, 1, 1, 5), 1);
        Due.same("a day behind", y.plan(1, 1, 1, 1, 9999), 1);
    }

    private static void refuses() {
        PlanText x = Due.with("p1k1r0:3c;d9:1a;");
        Due.same("plan", x.plan(1, 1, 1, 1, 0), 1);
        int[] kinds = {0, 10, -1, Integer.MIN_VALUE, Integer.MAX_VALUE};
        for (int kind : kinds) {
            Due.unknown("kind " + kind, () -> x.plan(kind, 1, 1, 1, 0));
            Due.unknown("unknown ahead of range", () -> x.plan(kind, 0, 0, 24, -1));
        }
        int[] low = {0, -1, Integer.MIN_VALUE};
        for (int v : low) {
            Due.outside("street " + v, () -> x.plan(2, v, 1, 1, 0));
            Due.outside("house " + v, () -> x.plan(2, 1, v, 1, 0));
            Due.outside("hour", () -> x.plan(2, 1, 1, Math.min(v, -1), 0));
            Due.outside("day", () -> x.plan(2, 1, 1, 1, Math.min(v, -1)));
        }
        Due.outside("street 100", () -> x.plan(2, 100, 1, 1, 0));
        Due.outside("house 1000", () -> x.plan(2, 1, 1000, 1, 0));
        Due.outside("hour 24", () -> x.plan(2, 1, 1, 24, 0));
        Due.outside("day 10000", () -> x.plan(2, 1, 1, 1, 10000));
        Due.outside("all at the end", () -> x.plan(9, Integer.MAX_VALUE, 1, 1, 0));
        Due.same("refusals leave the needs", x.need(0, 0), 3);
        Due.same("the greatest", x.plan(9, 99, 999, 23, 9999), 0);
        Due.same("the least", x.plan(1, 1, 1, 0, 0), 1);
    }
}
