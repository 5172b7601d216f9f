/** Promise 6: plan. */
public final class PlanTest {
    public static void main(String[] args) {
        fits();
        chooses();
        tellsNoneAndDefault();
        refusesUnknownKinds();
        refusesNumbersOutsideTheirRange();
        Due.end();
    }

    private static void fits() {
        Due.sentence("A call's plan .. on a day: one that fits");
        PlanText x = Due.with("p1k1@7#10-20r0:1a;p2k2[22-5]r0:1a;p3k3[5-22]r0:1a;p4k4[7-7]r0:1a;p5k5@99#999-999[0-23]r0:1a;");
        Due.same("kind", x.plan(6, 7, 15, 0, 0), -1);
        Due.same("street", x.plan(1, 8, 15, 0, 0), -1);
        Due.same("ahead of the houses", x.plan(1, 7, 9, 0, 0), -1);
        Due.same("first house", x.plan(1, 7, 10, 0, 0), 1);
        Due.same("last house", x.plan(1, 7, 20, 23, 0), 1);
        Due.same("behind the houses", x.plan(1, 7, 21, 0, 0), -1);
        for (int hour = 0; hour < 24; hour++) {
            Due.same("through midnight", x.plan(2, 1, 1, hour, 0), hour >= 22 || hour <= 5 ? 2 : -1);
            Due.same("by day", x.plan(3, 99, 999, hour, 0), hour >= 5 && hour <= 22 ? 3 : -1);
            Due.same("one hour", x.plan(4, 1, 1, hour, 0), hour == 7 ? 4 : -1);
            Due.same("all hours", x.plan(5, 99, 999, hour, 0), 5);
        }
    }

    private static void chooses() {
        Due.sentence("A call's plan .. on a day: the first of those that fit");
        PlanText x = Due.with("p9k1r3:1a;p3k1r3:1a;p1k1r2:1a;p20k1@5#1-9r9:1a;p2k1@5#5-9[3-3]r9:1a;d1:1a;d2:1b;d3:1c;p7k3@1#1-1r0:1a;");
        Due.same("highest rank, then lowest number", x.plan(1, 1, 1, 1, 0), 3);
        Due.same("rank ahead of number", x.plan(1, 5, 1, 1, 0), 20);
        Due.same("rank, then number", x.plan(1, 5, 5, 3, 0), 2);
        Due.same("but not at this hour", x.plan(1, 5, 5, 4, 0), 20);
        Due.same("the default", x.plan(2, 1, 1, 1, 0), 0);
        Due.same("the default when no plan of the kind fits", x.plan(3, 1, 2, 1, 0), 0);
        Due.same("a plan ahead of the default", x.plan(3, 1, 1, 1, 0), 7);
        Due.same("none", x.plan(4, 1, 1, 1, 0), -1);
        Due.same("the greatest number", Due.with("p1k1r0:1a;p40k1r9:1a;").plan(1, 1, 1, 1, 0), 40);
        PlanText y = new PlanText();
        Due.read(y, "p1k1r0:1a;", 5);
        Due.same("a day ahead of all editions", y.plan(1, 1, 1, 1, 4), -1);
        Due.same("the day", y.plan(1, 1, 1, 1, 5), 1);
        Due.same("a day behind", y.plan(1, 1, 1, 1, 9999), 1);
    }

    private static void refusesUnknownKinds() {
        Due.sentence("Unknown: no such kind");
        PlanText x = Due.with("p1k1r0:3c;d9:1a;");
        Due.same("the least kind", x.plan(1, 1, 1, 1, 0), 1);
        for (int kind : new int[] {0, 10, -1, Integer.MIN_VALUE, Integer.MAX_VALUE}) {
            Due.unknown("kind " + kind, () -> x.plan(kind, 1, 1, 1, 0));
            Due.unknown("unknown ahead of range", () -> x.plan(kind, 0, 0, 24, -1));
        }
        Due.same("refusals leave the needs", x.need(0, 0), 3);
        Due.same("the greatest kind", x.plan(9, 1, 1, 1, 0), 0);
    }

    private static void refusesNumbersOutsideTheirRange() {
        Due.sentence("range: street, house, hour, day");
        PlanText x = Due.with("p1k1r0:3c;d2:1a;");
        Due.same("the least", x.plan(1, 1, 1, 0, 0), 1);
        for (int v : new int[] {0, -1, Integer.MIN_VALUE, 100, 1000, Integer.MAX_VALUE}) {
            Due.outside("street " + v, () -> x.plan(2, v, 1, 1, 0));
        }
        for (int v : new int[] {0, -1, Integer.MIN_VALUE, 1000, 1001, Integer.MAX_VALUE}) {
            Due.outside("house " + v, () -> x.plan(2, 1, v, 1, 0));
        }
        for (int v : new int[] {-1, Integer.MIN_VALUE, 24, 25, 32, Integer.MAX_VALUE}) {
            Due.outside("hour " + v, () -> x.plan(2, 1, 1, v, 0));
        }
        for (int v : new int[] {-1, Integer.MIN_VALUE, 10000, Integer.MAX_VALUE}) {
            Due.outside("day " + v, () -> x.plan(2, 1, 1, 1, v));
        }
        Due.outside("without an edition", () -> new PlanText().plan(1, 1, 1, 24, 0));
        Due.same("refusals leave the needs", x.need(0, 0), 3);
        Due.same("the greatest", x.plan(2, 99, 999, 23, 9999), 0);
    }

    private static void tellsNoneAndDefault() {
        Due.sentence("A call's plan (0 the default, -1 none) on a day; its needs are told by need()");
        PlanText x = new PlanText();
        Due.same("no edition", x.plan(1, 1, 1, 1, 0), -1);
        Due.unknown("no needs", () -> x.need(0, 0));
        Due.read(x, "p5k1r0:5e;d2:2b;", 1);
        Due.same("a plan", x.plan(1, 1, 1, 1, 1), 5);
        Due.same("its need", x.need(0, 0), 5);
        Due.same("the default", x.plan(2, 1, 1, 1, 1), 0);
        Due.same("its need", x.need(0, 0), 2);
        Due.same("none", x.plan(3, 1, 1, 1, 1), -1);
        Due.unknown("its need", () -> x.need(0, 0));
        Due.same("a plan again", x.plan(1, 1, 1, 1, 1), 5);
        Due.same("none on the day before", x.plan(1, 1, 1, 1, 0), -1);
        Due.unknown("its need", () -> x.need(0, 0));
    }
}
