/** Promise 5: town. */
public final class TownTest {
    public static void main(String[] args) {
        PlanText x = Due.with("p1k1r0:1a;p2k1r0:1b;p3k1r0:9h;");
        x.town(0, 1);
        Due.same("a is met", x.lacks(0, 0), 2);
        x.town(1, 99);
        Due.same("b is met", x.lacks(0, 0), 3);
        x.town(7, 8);
        Due.same("h is not", x.lacks(0, 0), 3);
        x.town(7, 9);
        Due.same("h is met", x.lacks(0, 0), -1);
        x.town(0, 0);
        Due.same("a is taken back", x.lacks(0, 0), 1);
        x.town(0, 1);

        int[] skills = {-1, 8, Integer.MIN_VALUE, Integer.MAX_VALUE};
        int[] numbers = {-1, 100, Integer.MIN_VALUE, Integer.MAX_VALUE};
        for (int skill : skills) {
            Due.unknown("skill " + skill, () -> town(x, skill, 0));
            Due.unknown("unknown ahead of range", () -> town(x, skill, 100));
        }
        for (int n : numbers) {
            Due.outside("number " + n, () -> town(x, 0, n));
        }
        Due.same("nothing changed", x.lacks(0, 0), -1);
        Due.end();
    }

    private static long town(PlanText x, int skill, int n) {
        x.town(skill, n);
        return 0;
    }
}
