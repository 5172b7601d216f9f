/** Terms: plans that clash, plans never met, the town and what lacks, and standby. */
public final class QuestionEdgesTest {
    public static void main(String[] args) {
        clashesOnOneKindAndRank();
        clashesWhenSomeCallFitsBoth();
        isNeverMetWhenItIsThePlanOfNoCall();
        hasUnitsFrom0To99();
        hasNoUnitsAtFirst();
        lacksWhenACountIsAbove();
        sumsStandby();
        Due.end();
    }

    private static void clash(String first, String second, boolean due) {
        String text = "p7k" + first + ":1a;p8k" + second + ":1a;";
        Due.same("clash of " + text, Due.with(text).clash(0, 0), due ? 708 : -1);
        String turned = "p7k" + second + ":1a;p8k" + first + ":1a;";
        Due.same("clash of " + turned, Due.with(turned).clash(0, 0), due ? 708 : -1);
        String swapped = "p8k" + first + ":1a;p7k" + second + ":1a;";
        Due.same("clash of " + swapped, Due.with(swapped).clash(0, 0), due ? 708 : -1);
        Due.same("only one of " + text, Due.with(text).clash(0, 1), -1);
    }

    private static void clashesOnOneKindAndRank() {
        Due.sentence("Two plans CLASH when they have one kind and rank");
        clash("1r0", "1r0", true);
        clash("9r9", "9r9", true);
        clash("1r0", "2r0", false);
        clash("8r9", "9r9", false);
        clash("1r0", "1r1", false);
        clash("9r8", "9r9", false);
    }

    private static void clashesWhenSomeCallFitsBoth() {
        Due.sentence("and some call would fit both");
        clash("1@5#10-20r0", "1@5#20-30r0", true);
        clash("1@5#10-20r0", "1@5#21-30r0", false);
        clash("1@5#10-20r0", "1@5#10-20r0", true);
        clash("1@5#10-20r0", "1@5#12-18r0", true);
        clash("1@5#10-10r0", "1@5#10-10r0", true);
        clash("1@5#1-999r0", "1@6#1-999r0", false);
        clash("1@5#999-999r0", "1@5#1-998r0", false);
        clash("1@5#999-999r0", "1@5#1-999r0", true);
        clash("1@5#10-20r0", "1r0", true);
        clash("1[8-10]r0", "1[10-12]r0", true);
        clash("1[8-10]r0", "1[11-12]r0", false);
        clash("1[22-2]r0", "1[3-21]r0", false);
        clash("1[22-2]r0", "1[2-21]r0", true);
        clash("1[22-2]r0", "1[3-22]r0", true);
        clash("1[23-0]r0", "1[0-22]r0", true);
        clash("1[23-0]r0", "1[1-22]r0", false);
        clash("1[22-23]r0", "1[23-0]r0", true);
        clash("1[22-2]r0", "1[23-1]r0", true);
        clash("1[22-2]r0", "1r0", true);
        clash("1@5#10-20[8-10]r0", "1@5#20-30[10-12]r0", true);
        clash("1@5#10-20[8-10]r0", "1@5#20-30[11-12]r0", false);
        clash("1@5#10-20[8-10]r0", "1@5#21-30[10-12]r0", false);
        clash("1@5#10-20[8-10]r0", "1[10-12]r0", true);
        clash("1@5#10-20[8-10]r0", "1[11-12]r0", false);
        // A plan of a higher rank would have the call, and both still clash.
        Due.same("under a higher one", Due.with("p1k1r9:1a;p7k1r0:1a;p8k1r0:1a;").clash(0, 0), 708);
    }

    private static void never(String text, int... due) {
        PlanText x = Due.with(text);
        for (int i = 0; i < due.length; i++) {
            Due.same("never " + i + " of " + text, x.never(0, i), due[i]);
        }
        Due.same("no more never met of " + text, x.never(0, due.length), -1);
    }

    private static void isNeverMetWhenItIsThePlanOfNoCall() {
        Due.sentence("A plan is NEVER MET when it is the plan of no call");
        never("p1k1r0:1a;");
        never("p1k1r0:1a;p2k1r0:1a;", 2);
        never("p1k1r0:1a;p2k1r1:1a;", 1);
        never("p1k1r0:1a;p2k2r1:1a;");
        // One house, one hour, one street is left, or none.
        never("p1k1@5#10-20r0:1a;p2k1@5#10-19r1:1a;");
        never("p1k1@5#10-20r0:1a;p2k1@5#11-20r1:1a;");
        never("p1k1@5#10-20r0:1a;p2k1@5#10-20r1:1a;", 1);
        never("p1k1@5#10-20r0:1a;p2k1@5#10-14r1:1a;p3k1@5#16-20r1:1a;");
        never("p1k1@5#10-20r0:1a;p2k1@5#10-14r1:1a;p3k1@5#15-20r1:1a;", 1);
        never("p1k1@5#1-999r0:1a;p2k1@5#1-998r1:1a;");
        never("p1k1@5#1-999r0:1a;p2k1@5#2-999r1:1a;");
        never("p1k1@5#1-999r0:1a;p2k1@5#1-999r1:1a;", 1);
        never("p1k1[8-10]r0:1a;p2k1[9-10]r1:1a;");
        never("p1k1[8-10]r0:1a;p2k1[8-9]r1:1a;");
        never("p1k1[8-10]r0:1a;p2k1[8-10]r1:1a;", 1);
        never("p1k1[23-0]r0:1a;p2k1[23-23]r1:1a;");
        never("p1k1[23-0]r0:1a;p2k1[0-0]r1:1a;");
        never("p1k1[23-0]r0:1a;p2k1[23-23]r1:1a;p3k1[0-0]r1:1a;", 1);
        never("p1k1r0:1a;p2k1[0-22]r1:1a;");
        never("p1k1r0:1a;p2k1[1-0]r1:1a;", 1);
        never("p1k1r0:1a;p2k1[5-4]r1:1a;", 1);
        never("p1k1r0:1a;p2k1@5#1-999r1:1a;");
        never("p1k1@5#1-999r0:1a;p2k1r1:1a;", 1);
        // What is left stands behind the lowest or the highest of the plans, or on no told street.
        never("p1k1@5#10-19r1:1a;p2k1@5#10-20r0:1a;");
        never("p1k1@5#10-20r1:1a;p2k1@5#10-20r0:1a;", 2);
        never("p40k1@5#10-19r1:1a;p2k1@5#10-20r0:1a;");
        never("p40k1@5#10-20r1:1a;p2k1@5#10-20r0:1a;", 2);
        never("p1k1@5#10-19r0:1a;p40k1@5#10-20r0:1a;");
        never("p39k1@5#10-20r0:1a;p40k1@5#10-20r0:1a;", 40);
        never("p1k1r0:1a;p2k1@1#1-999r1:1a;p3k1@99#1-999r1:1a;p4k1@2#1-999r1:1a;");
        never("p1k1[8-9]r0:1a;p2k1[8-8]r1:1a;p3k1@1#1-999[9-9]r1:1a;");
        // The one house left is left at one hour alone.
        never("p1k1@5#1-3r0:1a;p2k1@5#1-1r1:1a;p3k1@5#3-3r1:1a;p4k1@5#2-2[0-22]r1:1a;");
        never("p1k1@5#1-3r0:1a;p2k1@5#1-1r1:1a;p3k1@5#3-3r1:1a;p4k1@5#2-2[0-22]r1:1a;p5k1@5#1-3[23-23]r2:1a;", 1);
        never("p1k1r0:1a;d1:1a;");
    }

    private static void hasUnitsFrom0To99() {
        Due.sentence("The TOWN has so many units of each skill (0 .. 99");
        PlanText x = Due.with("p1k1r0:1a;");
        for (int skill = 0; skill < 8; skill++) {
            for (int n : new int[] {0, 1, 98, 99}) {
                int asked = skill;
                Due.same("town " + skill + " " + n, Due.outcome(() -> Due.town(x, asked, n)), "0");
            }
            for (int n : new int[] {-1, 100, Integer.MIN_VALUE, Integer.MAX_VALUE}) {
                int asked = skill;
                Due.outside("town " + skill + " " + n, () -> Due.town(x, asked, n));
            }
        }
        Due.same("99 units", x.lacks(0, 0), -1);
        x.town(0, 0);
        Due.same("0 units", x.lacks(0, 0), 1);
        x.town(0, 1);
        Due.same("1 unit", x.lacks(0, 0), -1);
        // Greatest sums: no sum of units becomes small again.
        PlanText y = Due.with("p1k1r0:9a/b/c;");
        y.town(0, 99);
        y.town(1, 99);
        y.town(2, 99);
        Due.same("99 units of each", y.lacks(0, 0), -1);
    }

    private static void hasNoUnitsAtFirst() {
        Due.sentence("0 at first");
        for (char skill = 'a'; skill <= 'h'; skill++) {
            PlanText x = Due.with("p1k1r0:1" + skill + ";");
            Due.same("no unit of " + skill, x.lacks(0, 0), 1);
            for (int other = 0; other < 8; other++) {
                if (other != skill - 'a') {
                    x.town(other, 99);
                }
            }
            Due.same("others' units are not of " + skill, x.lacks(0, 0), 1);
            x.town(skill - 'a', 1);
            Due.same("a unit of " + skill, x.lacks(0, 0), -1);
        }
        Due.same("three without units", Due.with("p1k1r0:1f/g/h;").lacks(0, 0), 1);
    }

    private static void lacksWhenACountIsAbove() {
        Due.sentence("a plan LACKS when some need's count is above the units of its skill and its alternatives together");
        for (int count = 1; count <= 9; count++) {
            PlanText x = Due.with("p1k1r0:" + count + "a;");
            x.town(0, count - 1);
            Due.same("one unit below " + count, x.lacks(0, 0), 1);
            x.town(0, count);
            Due.same("as many units as " + count, x.lacks(0, 0), -1);
            x.town(0, count + 1);
            Due.same("one unit above " + count, x.lacks(0, 0), -1);
        }
        PlanText y = Due.with("p1k1r0:6a/h/d;");
        y.town(0, 1);
        y.town(7, 2);
        y.town(3, 2);
        y.town(4, 99);
        Due.same("five together", y.lacks(0, 0), 1);
        y.town(3, 3);
        Due.same("six together", y.lacks(0, 0), -1);
        for (int wanting = 0; wanting < 5; wanting++) {
            PlanText z = Due.with("p1k1r0:2a,2b,2c,2d,2e;");
            for (int skill = 0; skill < 5; skill++) {
                z.town(skill, skill == wanting ? 1 : 2);
            }
            Due.same("need " + wanting + " alone is above", z.lacks(0, 0), 1);
            z.town(wanting, 2);
            Due.same("none is above", z.lacks(0, 0), -1);
        }
        // Needs are not added up, and defaults and standby are no plans.
        PlanText each = Due.with("p1k1r0:2a,2a/b,2b/a;d1:9h;s[0-23]1:9h;");
        each.town(0, 2);
        Due.same("each need by itself", each.lacks(0, 0), -1);
    }

    private static void sumsStandby() {
        Due.sentence("the sum of counts of all standby rows of the skill with the hour whose calls are not above these");
        PlanText x = Due.with("s[22-2]3:1a;s[2-5]3:2a;s[22-2]4:4a;s[22-2]9:8a;s[22-2]1:9b;");
        int[][] due = {{2, 2, 0}, {2, 3, 3}, {2, 4, 7}, {2, 8, 7}, {2, 9, 15}, {2, 99, 15}, {22, 3, 1}, {23, 4, 5}, {0, 99, 13},
            {21, 99, 0}, {3, 99, 2}, {5, 3, 2}, {5, 2, 0}, {6, 99, 0}, {2, 0, 0}};
        for (int[] row : due) {
            Due.same("standby at " + row[0] + " with " + row[1], x.standby(0, row[0], row[1], 0), row[2]);
        }
        Due.same("another skill", x.standby(1, 2, 1, 0), 9);
        Due.same("another skill without calls", x.standby(1, 2, 0, 0), 0);
        Due.same("a skill of no row", x.standby(2, 2, 99, 0), 0);
        Due.same("eight rows of nine", Due.with("s[0-23]9:9h;".repeat(8)).standby(7, 23, 9, 0), 72);
        Due.same("no rows", Due.with("").standby(0, 0, 99, 0), 0);
    }
}
