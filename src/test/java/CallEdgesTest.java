/** Terms: which plans fit a call, and which of them is its plan. */
public final class CallEdgesTest {
    public static void main(String[] args) {
        fitsByKind();
        fitsByStreetAndHouse();
        fitsByHour();
        takesTheHighestRank();
        takesTheLowestNumberOfTheSameRank();
        takesTheDefaultWhenNoneFits();
        Due.end();
    }

    private static void due(String text, int plan, int kind, int street, int house, int hour) {
        PlanText x = Due.with(text);
        Due.same(text + " for " + kind + " " + street + " " + house + " " + hour,
            x.plan(kind, street, house, hour, 0), plan);
    }

    private static void fitsByKind() {
        Due.sentence("A plan FITS it when its kind is so");
        due("p1k5r0:1a;", -1, 4, 1, 1, 0);
        due("p1k5r0:1a;", 1, 5, 1, 1, 0);
        due("p1k5r0:1a;", -1, 6, 1, 1, 0);
        due("p1k1r0:1a;p9k9r9:1a;", 1, 1, 1, 1, 0);
        due("p1k1r0:1a;p9k9r9:1a;", 9, 9, 1, 1, 0);
    }

    private static void fitsByStreetAndHouse() {
        Due.sentence("its street (if it tells one) with the house within");
        String text = "p1k1@50#100-200r0:1a;";
        due(text, -1, 1, 49, 150, 0);
        due(text, -1, 1, 51, 150, 0);
        due(text, -1, 1, 50, 99, 0);
        due(text, 1, 1, 50, 100, 0);
        due(text, 1, 1, 50, 101, 0);
        due(text, 1, 1, 50, 199, 0);
        due(text, 1, 1, 50, 200, 0);
        due(text, -1, 1, 50, 201, 0);
        due("p1k1@99#7-7r0:1a;", -1, 1, 99, 6, 0);
        due("p1k1@99#7-7r0:1a;", 1, 1, 99, 7, 0);
        due("p1k1@99#7-7r0:1a;", -1, 1, 99, 8, 0);
        due("p1k1@1#1-999r0:1a;", 1, 1, 1, 1, 0);
        due("p1k1@1#1-999r0:1a;", 1, 1, 1, 999, 0);
        due("p1k1@1#1-1r0:1a;", -1, 1, 1, 2, 0);
        due("p1k1@1#999-999r0:1a;", -1, 1, 1, 998, 0);
        due("p1k1r0:1a;", 1, 1, 1, 1, 0);
        due("p1k1r0:1a;", 1, 1, 99, 999, 23);
    }

    private static void fitsByHour() {
        Due.sentence("and the hour within its hours (if it tells some)");
        hours("[8-17]", 8, 9, 10, 11, 12, 13, 14, 15, 16, 17);
        hours("[0-0]", 0);
        hours("[23-23]", 23);
        hours("[23-0]", 0, 23);
        hours("[22-1]", 0, 1, 22, 23);
        hours("[1-0]", 0, 1, 2, 3, 4, 5, 6, 7, 8, 9, 10, 11, 12, 13, 14, 15, 16, 17, 18, 19, 20, 21, 22, 23);
        hours("[0-23]", 0, 1, 2, 3, 4, 5, 6, 7, 8, 9, 10, 11, 12, 13, 14, 15, 16, 17, 18, 19, 20, 21, 22, 23);
        hours("", 0, 1, 2, 3, 4, 5, 6, 7, 8, 9, 10, 11, 12, 13, 14, 15, 16, 17, 18, 19, 20, 21, 22, 23);
    }

    private static void hours(String told, int... within) {
        for (int hour = 0; hour <= 23; hour++) {
            int plan = -1;
            for (int one : within) {
                plan = one == hour ? 1 : plan;
            }
            due("p1k1" + told + "r0:1a;", plan, 1, 1, 1, hour);
            due("p1k1@3#5-6" + told + "r0:1a;", plan, 1, 3, 6, hour);
        }
    }

    private static void takesTheHighestRank() {
        Due.sentence("Its PLAN is, of those that fit, the one of the highest rank");
        due("p1k1r0:1a;p2k1r1:1a;", 2, 1, 1, 1, 0);
        due("p1k1r1:1a;p2k1r0:1a;", 1, 1, 1, 1, 0);
        due("p1k1r8:1a;p40k1r9:1a;p2k1r8:1a;", 40, 1, 1, 1, 0);
        due("p40k1r9:1a;p1k1r0:1a;", 40, 1, 1, 1, 0);
        due("p1k1r0:1a;p2k1@1#5-9r9:1a;", 1, 1, 1, 4, 0);
        due("p1k1r0:1a;p2k1@1#5-9r9:1a;", 2, 1, 1, 5, 0);
        due("p1k1r0:1a;p2k1[23-0]r9:1a;", 1, 1, 1, 1, 22);
        due("p1k1r0:1a;p2k1[23-0]r9:1a;", 2, 1, 1, 1, 23);
        due("p1k1r0:1a;p2k2r9:1a;", 1, 1, 1, 1, 0);
    }

    private static void takesTheLowestNumberOfTheSameRank() {
        Due.sentence("of the same the lowest number");
        for (int rank : new int[] {0, 9}) {
            due("p2k1r" + rank + ":1a;p1k1r" + rank + ":1a;", 1, 1, 1, 1, 0);
            due("p1k1r" + rank + ":1a;p2k1r" + rank + ":1a;", 1, 1, 1, 1, 0);
            due("p40k1r" + rank + ":1a;p39k1r" + rank + ":1a;", 39, 1, 1, 1, 0);
            due("p10k1r" + rank + ":1a;p9k1r" + rank + ":1a;", 9, 1, 1, 1, 0);
        }
        due("p1k1@1#5-9r3:1a;p2k1r3:1a;p3k1r3:1a;", 2, 1, 1, 4, 0);
        due("p1k1@1#5-9r3:1a;p2k1r3:1a;p3k1r3:1a;", 1, 1, 1, 5, 0);
    }

    private static void takesTheDefaultWhenNoneFits() {
        Due.sentence("0 when none fits and there is a default, otherwise -1");
        due("d1:1a;", 0, 1, 1, 1, 0);
        due("d1:1a;", -1, 2, 1, 1, 0);
        due("d9:1a;", 0, 9, 99, 999, 23);
        due("d9:1a;", -1, 8, 99, 999, 23);
        due("d1:1a;p1k1r0:1a;", 1, 1, 1, 1, 0);
        due("d1:1a;p1k1@1#5-9r9:1a;", 0, 1, 1, 4, 0);
        due("d1:1a;p1k1@1#5-9r9:1a;", 1, 1, 1, 5, 0);
        due("d1:1a;p1k1[5-9]r9:1a;", 0, 1, 1, 1, 4);
        due("d2:1a;p1k1[5-9]r9:1a;", -1, 1, 1, 1, 4);
        due("d1:1a;p1k2r9:1a;", 0, 1, 1, 1, 0);
        due("s[0-23]1:1a;", -1, 1, 1, 1, 0);
        due("", -1, 1, 1, 1, 0);
    }
}
