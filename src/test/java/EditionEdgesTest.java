/** Terms: editions and their days. */
public final class EditionEdgesTest {
    public static void main(String[] args) {
        hasADayFrom0To9999();
        isOneOfAtMostSix();
        isThatOfTheGreatestDayNotAbove();
        isTheOneMadeLastOfTheSameDay();
        hasNoRowsWithoutOne();
        Due.end();
    }

    private static void hasADayFrom0To9999() {
        Due.sentence("A right text makes an EDITION for a DAY (0 .. 9,999) on");
        for (int day : new int[] {0, 1, 9998, 9999}) {
            PlanText x = new PlanText();
            Due.same("read for day " + day, Due.read(x, "p1k1r0:1a;", day), 1);
            Due.same("on the day itself", x.plan(1, 1, 1, 0, day), 1);
            Due.same("on the last day", x.plan(1, 1, 1, 0, 9999), 1);
            if (day > 0) {
                Due.same("on the day before", x.plan(1, 1, 1, 0, day - 1), -1);
                Due.same("on the first day", x.plan(1, 1, 1, 0, 0), -1);
            }
        }
        for (int day : new int[] {-1, 10000, Integer.MIN_VALUE, Integer.MAX_VALUE}) {
            PlanText x = new PlanText();
            Due.tape(x, "p1k1r0:1a;");
            Due.outside("read for day " + day, () -> x.read(day));
            Due.same("editions", x.count(0), 0);
            Due.same("the tape is there", x.sign(' ', 1), 11);
        }
    }

    private static void isOneOfAtMostSix() {
        Due.sentence("at most 6");
        PlanText x = new PlanText();
        for (int i = 1; i <= 6; i++) {
            Due.same("edition " + i, Due.read(x, "p" + i + "k1r0:1a;", 10 * i), 1);
            Due.same("editions", x.count(0), i);
        }
        for (int day : new int[] {0, 60, 61, 9999}) {
            Due.tape(x, "p40k1r0:1a;");
            Due.noRoom("a seventh for day " + day, () -> x.read(day));
            Due.same("editions", x.count(0), 6);
        }
        Due.noRoom("an empty seventh", () -> x.read(0));
        Due.same("none of the seventh", x.plan(1, 1, 1, 0, 0), -1);
        for (int i = 1; i <= 6; i++) {
            Due.same("edition " + i + " is there", x.plan(1, 1, 1, 0, 10 * i), i);
        }
        PlanText y = new PlanText();
        for (int i = 1; i <= 6; i++) {
            Due.same("an empty one", y.read(0), 0);
        }
        Due.noRoom("six empty ones are six", () -> y.read(0));
        PlanText z = new PlanText();
        for (int i = 1; i <= 7; i++) {
            Due.tape(z, "x");
            Due.notNow("wrong ones", () -> z.read(0));
        }
        Due.same("are none", z.count(0), 0);
        Due.same("and take no room", z.read(0), 0);
    }

    private static void isThatOfTheGreatestDayNotAbove() {
        Due.sentence("the edition of a day is that of the greatest day not above it");
        PlanText x = new PlanText();
        int[] days = {500, 0, 9999, 100, 501, 99};
        for (int i = 0; i < days.length; i++) {
            String row = (i + 1) + "k1r0:9a;";
            Due.read(x, "p" + row + "p3" + row + "s[0-23]1:" + (i + 1) + "a;", days[i]);
        }
        int[][] due = {{0, 2}, {1, 2}, {98, 2}, {99, 6}, {100, 4}, {101, 4}, {499, 4}, {500, 1}, {501, 5}, {502, 5},
            {9998, 5}, {9999, 3}};
        for (int[] row : due) {
            int day = row[0];
            int number = row[1];
            Due.same("plan of day " + day, x.plan(1, 1, 1, 0, day), number);
            Due.same("standby of day " + day, x.standby(0, 0, 1, day), number);
            Due.same("clash of day " + day, x.clash(day, 0), 100 * number + 30 + number);
            Due.same("never of day " + day, x.never(day, 0), 30 + number);
            Due.same("lacks of day " + day, x.lacks(day, 0), number);
            x.print(day);
            Due.same("print of day " + day, x.at(1), '0' + number);
        }
    }

    private static void isTheOneMadeLastOfTheSameDay() {
        Due.sentence("(of the same day the one made last)");
        for (int day : new int[] {0, 7, 9999}) {
            PlanText x = new PlanText();
            for (int i = 1; i <= 6; i++) {
                Due.read(x, "p" + i + "k1r0:1a;", day);
                Due.same("the latest for day " + day, x.plan(1, 1, 1, 0, day), i);
            }
        }
        PlanText y = new PlanText();
        Due.read(y, "p1k1r0:1a;", 7);
        Due.read(y, "p2k1r0:1a;", 3);
        Due.read(y, "p3k1r0:1a;", 7);
        Due.read(y, "p4k1r0:1a;", 3);
        Due.same("day 3", y.plan(1, 1, 1, 0, 3), 4);
        Due.same("day 6", y.plan(1, 1, 1, 0, 6), 4);
        Due.same("day 7", y.plan(1, 1, 1, 0, 7), 3);
        Due.same("day 8", y.plan(1, 1, 1, 0, 8), 3);
        y.read(7);
        Due.same("an empty one made last", y.plan(1, 1, 1, 0, 7), -1);
    }

    private static void hasNoRowsWithoutOne() {
        Due.sentence("without one there are no rows");
        noRows(new PlanText(), 0);
        noRows(new PlanText(), 9999);
        PlanText x = new PlanText();
        Due.read(x, "p1k1r0:1a;p2k1r0:1a;d2:1a;s[0-23]1:1a;", 100);
        noRows(x, 99);
        noRows(x, 0);
        Due.same("but on the day", x.plan(1, 1, 1, 0, 100), 1);
    }

    private static void noRows(PlanText x, int day) {
        Due.same("plan of day " + day, x.plan(1, 1, 1, 0, day), -1);
        Due.same("default of day " + day, x.plan(2, 1, 1, 0, day), -1);
        Due.unknown("need of day " + day, () -> x.need(0, 0));
        Due.same("standby of day " + day, x.standby(0, 0, 99, day), 0);
        Due.same("clash of day " + day, x.clash(day, 0), -1);
        Due.same("never of day " + day, x.never(day, 0), -1);
        Due.same("lacks of day " + day, x.lacks(day, 0), -1);
        Due.same("print of day " + day, x.print(day), 0);
        Due.same("its first byte", x.at(0), -1);
    }
}
