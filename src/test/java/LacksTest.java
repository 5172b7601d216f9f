/** Promise 11: lacks. */
public final class LacksTest {
    public static void main(String[] args) {
        tellsPlansThatLack();
        ordersPlans();
        refusesNumbersOutsideTheirRange();
        tellsNoneBehindThem();
        Due.end();
    }

    private static void tellsPlansThatLack() {
        Due.sentence("plan that lacks");
        PlanText x = Due.with("p40k1r0:2a,1b;p3k1r0:3a/b/c;p5k9r0:1d;p6k1r0:9h/g,9h/g;d1:9e;s[0-23]1:9f;");
        due(x, 3, 5, 6, 40);
        x.town(0, 2);
        due(x, 3, 5, 6, 40);
        x.town(1, 1);
        due(x, 5, 6);
        x.town(1, 0);
        x.town(2, 1);
        due(x, 5, 6, 40);
        x.town(2, 0);
        due(x, 3, 5, 6, 40);
        x.town(3, 99);
        due(x, 3, 6, 40);
        x.town(7, 4);
        x.town(6, 4);
        due(x, 3, 6, 40);
        // Each need is held against the whole town: the other need takes nothing from it.
        x.town(6, 5);
        due(x, 3, 40);
        x.town(0, 3);
        x.town(1, 1);
        due(x);
    }

    private static void due(PlanText x, int... lacking) {
        for (int i = 0; i < lacking.length; i++) {
            Due.same("lacks " + i, x.lacks(0, i), lacking[i]);
        }
        Due.same("no more", x.lacks(0, lacking.length), -1);
    }

    private static void ordersPlans() {
        Due.sentence("The i-th plan that lacks.");
        PlanText x = Due.with("p40k1r9:1a;p2k1r0:1b;p39k1r5:1a;p10k9r0:2c,1a;p9k1r0:1h;p1k1r0:1a;");
        x.town(1, 1);
        due(x, 1, 9, 10, 39, 40);
        x.town(0, 1);
        due(x, 9, 10);
    }

    private static void refusesNumbersOutsideTheirRange() {
        Due.sentence("lacks: Range: the day, i.");
        Listed.refusesNumbersOutsideTheirRange((x, day, i) -> x.lacks(day, i), 1);
    }

    private static void tellsNoneBehindThem() {
        Due.sentence("lacks: -1 when there are not so many");
        Listed.tellsNoneBehindThem((x, day, i) -> x.lacks(day, i), 1);
    }
}
