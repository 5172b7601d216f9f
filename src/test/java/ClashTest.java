/** Promise 9: clash. */
public final class ClashTest {
    public static void main(String[] args) {
        tellsPairsThatClash();
        ordersPairs();
        refusesNumbersOutsideTheirRange();
        tellsNoneBehindThem();
        Due.end();
    }

    private static void tellsPairsThatClash() {
        Due.sentence("pair of plans of a day's edition that clash");
        two("p1k1r0:1a;p2k1r0:1a;", 102);
        two("p40k1r0:1a;p3k1r0:1a;", 340);
        two("p1k1r0:1a;p2k1r0:1a;d1:1a;s[0-23]1:1a;", 102);
        two("p1k1r0:1a;p2k2r0:1a;", -1);
        two("p1k1r0:1a;p2k1r1:1a;", -1);
        two("p1k1@1#1-9r0:1a;p2k1@2#1-9r0:1a;", -1);
        two("p1k1@1#1-9r0:1a;p2k1r0:1a;", 102);
        two("p1k1r0:1a;p2k1@1#1-9r0:1a;", 102);
        two("p1k1@1#1-9r0:1a;p2k1@1#9-12r0:1a;", 102);
        two("p1k1@1#9-12r0:1a;p2k1@1#1-9r0:1a;", 102);
        two("p1k1@1#1-9r0:1a;p2k1@1#10-12r0:1a;", -1);
        two("p1k1@1#10-12r0:1a;p2k1@1#1-9r0:1a;", -1);
        two("p1k1@1#1-99r0:1a;p2k1@1#10-12r0:1a;", 102);
        two("p1k1[1-5]r0:1a;p2k1[6-9]r0:1a;", -1);
        two("p1k1[1-5]r0:1a;p2k1[5-9]r0:1a;", 102);
        two("p1k1[22-5]r0:1a;p2k1[5-9]r0:1a;", 102);
        two("p1k1[22-5]r0:1a;p2k1[6-21]r0:1a;", -1);
        two("p1k1[22-5]r0:1a;p2k1[6-22]r0:1a;", 102);
        two("p1k1[22-5]r0:1a;p2k1[23-4]r0:1a;", 102);
        two("p1k1[22-5]r0:1a;p2k1r0:1a;", 102);
        two("p1k1@1#1-9[1-2]r0:1a;p2k1@1#1-9[3-4]r0:1a;", -1);
        two("p1k1@1#1-9[1-2]r0:1a;p2k1@1#5-9[2-4]r0:1a;", 102);
    }

    private static void two(String text, int due) {
        PlanText x = Due.with(text);
        Due.same(text, x.clash(0, 0), due);
        Due.same(text, x.clash(0, 1), -1);
    }

    private static void ordersPairs() {
        Due.sentence("The i-th (0 first) pair .. by the lower, then the higher number: 100 times the lower, and the higher");
        // A plan ahead of both does not keep them from clashing.
        PlanText x = Due.with("p12k1r0:1a;p3k1r0:1a;p7k1r0:1a;p1k1r9:1a;p40k2r0:1a;p39k2r0:1a;p5k1@1#1-1r0:1a;p6k1@2#1-1r0:1a;");
        int[] due = {305, 306, 307, 312, 507, 512, 607, 612, 712, 3940, -1, -1};
        for (int i = 0; i < due.length; i++) {
            Due.same("pair " + i, x.clash(0, i), due[i]);
        }
        Due.same("far behind", x.clash(0, Integer.MAX_VALUE), -1);
    }

    private static void refusesNumbersOutsideTheirRange() {
        Due.sentence("clash: Range: the day, i.");
        Listed.refusesNumbersOutsideTheirRange((x, day, i) -> x.clash(day, i), 102);
    }

    private static void tellsNoneBehindThem() {
        Due.sentence("clash: -1 when there are not so many");
        Listed.tellsNoneBehindThem((x, day, i) -> x.clash(day, i), 102);
    }
}
