/** Promise 10: never. */
public final class NeverTest {
    public static void main(String[] args) {
        tellsPlansNeverMet();
        ordersPlans();
        refusesNumbersOutsideTheirRange();
        tellsNoneBehindThem();
        Due.end();
    }

    private static void tellsPlansNeverMet() {
        Due.sentence("plan .. that is never met");
        due("p1k1r0:1a;");
        due("p1k1r0:1a;p2k1r0:1a;", 2);
        due("p1k1r0:1a;p2k1r1:1a;", 1);
        due("p1k1r0:1a;p2k2r1:1a;");
        due("p1k1r0:1a;d1:1a;");
        due("p1k1r0:1a;p2k1r0:1a;d1:1a;s[0-23]1:1a;", 2);
        due("p1k1@7#12-18r4:1a;p2k1@7#10-20r5:1a;", 1);
        due("p1k1@7#12-18r4:1a;p2k1@7#10-17r5:1a;");
        due("p1k1@7#12-18r4:1a;p2k1@7#13-20r5:1a;");
        due("p1k1@7#12-18r4:1a;p2k1@8#10-20r5:1a;");
        due("p1k1@7#12-18r4:1a;p2k1r5:1a;", 1);
        due("p1k1r4:1a;p2k1@7#1-999r5:1a;");
        due("p1k1r4:1a;p2k1[0-11]r5:1a;p3k1[12-23]r5:1a;", 1);
        due("p1k1r4:1a;p2k1[0-11]r5:1a;p3k1[13-23]r5:1a;");
        due("p1k1[23-1]r4:1a;p2k1[22-0]r5:1a;p3k1[1-1]r5:1a;", 1);
        // Only two together cover the houses; and one more for an hour of some of them.
        due("p1k1@1#1-30r1:1a;p2k1@1#1-10r2:1a;p3k1@1#11-40r2:1a;", 1);
        due("p1k1@1#1-30r1:1a;p2k1@1#1-10r2:1a;p3k1@1#12-40r2:1a;");
        due("p1k1@1#1-30r1:1a;p2k1@1#1-20r2:1a;p3k1@1#10-40r3:1a;", 1);
        due("p1k1@1#1-30r1:1a;p2k1@1#1-20r2:1a;p3k1@1#21-30[0-22]r3:1a;p4k1@1#21-30[23-23]r2:1a;", 1);
        due("p1k1@1#1-30r1:1a;p2k1@1#1-20r2:1a;p3k1@1#21-30[0-22]r3:1a;p4k1@1#22-30[23-23]r2:1a;");
        due("p1k1@1#1-30[23-23]r1:1a;p2k1@1#1-20r2:1a;p3k1@1#21-30[23-23]r3:1a;", 1);
        due("p1k1@1#1-999r1:1a;p2k1@1#1-998r2:1a;");
        due("p1k1@1#999-999r1:1a;p2k1@1#1-999r2:1a;", 1);
        due("p1k1@1#1-30r1:1a;p40k1@1#1-10r2:1a;p3k1@1#12-40r2:1a;");
        due("p1k1@1#1-30r1:1a;p40k1@1#11-40r2:1a;p3k1@1#1-10r2:1a;", 1);
        due("p1k1@1#5-6r1:1a;p2k1@1#1-5r2:1a;");
        due("p1k1@1#5-6r1:1a;p2k1@1#1-5r2:1a;p3k1@1#6-6r3:1a;", 1);
        // The lower number of one rank leaves nothing to the higher one, not the other way.
        due("p2k1@1#5-9r1:1a;p1k1@1#1-9r1:1a;", 2);
        due("p1k1@1#5-9r1:1a;p2k1@1#1-9r1:1a;");
        due("p1k1@1#1-9r1:1a;p2k1r1:1a;p3k1@2#1-9r1:1a;p4k1r0:1a;", 3, 4);
        due("p5k2[6-8]r2:1a;p1k2r3:1a;p40k2r3:1a;p30k3r3:1a;", 5, 40);
    }

    private static void due(String text, int... never) {
        PlanText x = Due.with(text);
        for (int i = 0; i < never.length; i++) {
            Due.same(text + " " + i, x.never(0, i), never[i]);
        }
        Due.same(text + " no more", x.never(0, never.length), -1);
        Due.same(text + " far behind", x.never(0, Integer.MAX_VALUE), -1);
    }

    private static void ordersPlans() {
        Due.sentence("The i-th plan (by numbers) that is never met");
        due("p40k1r0:1a;p39k1r0:1a;p3k1r1:1a;p2k1r9:1a;p10k1r8:1a;p9k2r0:1a;", 3, 10, 39, 40);
        due("p40k1r9:1a;p2k1r0:1a;p1k1r0:1a;", 1, 2);
    }

    private static void refusesNumbersOutsideTheirRange() {
        Due.sentence("never: Range: the day, i.");
        Listed.refusesNumbersOutsideTheirRange((x, day, i) -> x.never(day, i), 2);
    }

    private static void tellsNoneBehindThem() {
        Due.sentence("never: -1 when there are not so many");
        Listed.tellsNoneBehindThem((x, day, i) -> x.never(day, i), 2);
    }
}
