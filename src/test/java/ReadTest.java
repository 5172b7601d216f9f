/** Promise 3: read. */
public final class ReadTest {
    public static void main(String[] args) {
        makesEditions();
        usesTheTapeUp();
        hasRoomForSix();
        choosesByDay();
        takesLongTexts();
        Due.end();
    }

    private static void makesEditions() {
        PlanText x = new PlanText();
        Due.same("no bytes", x.read(0), 0);
        Due.same("blanks alone", Due.read(x, "   ", 0), 0);
        Due.same("no plan", Due.read(x, "d1:1a;s[0-0]1:1a;", 0), 0);
        Due.same("two plans", Due.read(x, "p40k9r9:9h;d1:1a;p1k1r0:1a;", 9999), 2);
        Due.same("editions", x.count(0), 4);
    }

    private static void usesTheTapeUp() {
        PlanText x = new PlanText();
        Due.tape(x, "p1k1r0:");
        Due.outside("day -1", () -> x.read(-1));
        Due.outside("day 10000", () -> x.read(10000));
        Due.outside("the least day", () -> x.read(Integer.MIN_VALUE));
        Due.same("the range leaves the tape", x.sign(Due.packed("1a;"), 3), 10);
        Due.same("read", x.read(0), 1);
        Due.same("used up", x.sign('x', 1), 1);
        Due.outside("the range is told ahead of the state", () -> x.read(10000));
        Due.refused("wrong", IllegalStateException.class, () -> x.read(0));
        Due.same("used up by a wrong one", x.sign(' ', 1), 1);
        Due.same("a wrong one makes no edition", x.count(0), 1);
        Due.same("nor changes the latest", x.count(1), 1);
        Due.same("nor the day's", x.plan(1, 1, 1, 1, 0), 1);
    }

    private static void hasRoomForSix() {
        PlanText x = new PlanText();
        for (int i = 1; i <= 6; i++) {
            Due.same("edition", Due.read(x, "p" + i + "k1r0:1a;", 5), 1);
        }
        Due.tape(x, "p1k1r");
        Due.refused("wrong ahead of room", IllegalStateException.class, () -> x.read(5));
        Due.same("place", x.place(), 5);
        Due.tape(x, "d1:1a;");
        Due.outside("range ahead of room", () -> x.read(-1));
        Due.same("place stays", x.place(), 5);
        Due.refused("a seventh", UnsupportedOperationException.class, () -> x.read(5));
        Due.same("a right one", x.place(), -1);
        Due.same("used up", x.sign(' ', 1), 1);
        Due.refused("a seventh without rows", UnsupportedOperationException.class, () -> x.read(9));
        Due.same("editions", x.count(0), 6);
        Due.same("the latest stays", x.count(2), 0);
        Due.same("the day's stays", x.plan(1, 1, 1, 1, 5), 6);
        Due.same("later days' too", x.plan(1, 1, 1, 1, 9), 6);
    }

    private static void choosesByDay() {
        PlanText x = new PlanText();
        int[] days = {10, 0, 9999, 10, 5, 9};
        for (int i = 0; i < days.length; i++) {
            Due.read(x, "p" + (i + 1) + "k1r0:1a;", days[i]);
        }
        int[][] due = {{0, 2}, {4, 2}, {5, 5}, {8, 5}, {9, 6}, {10, 4}, {11, 4}, {9998, 4}, {9999, 3}};
        for (int[] row : due) {
            Due.same("plan of day " + row[0], x.plan(1, 1, 1, 1, row[0]), row[1]);
            Due.same("never of day " + row[0], x.never(row[0], 0), -1);
            Due.same("lacks of day " + row[0], x.lacks(row[0], 0), row[1]);
        }
    }

    private static void takesLongTexts() {
        StringBuilder text = new StringBuilder();
        int plans = 0;
        for (int number = 40; number > 3; number--) {
            text.append("p").append(number).append("k1r0:1a;");
            plans++;
        }
        while (text.length() > 400) {
            text.setLength(text.length() - 10);
            plans--;
        }
        PlanText x = new PlanText();
        Due.same("many plans", Due.read(x, text.toString(), 0), plans);
        Due.same("the lowest of them", x.plan(1, 1, 1, 1, 0), 41 - plans);
        Due.same("pairs", x.clash(0, plans * (plans - 1) / 2 - 1), 3940);
        Due.same("no more pairs", x.clash(0, plans * (plans - 1) / 2), -1);
        Due.same("never met", x.never(0, plans - 2), 40);
        Due.same("no more never met", x.never(0, plans - 1), -1);
        Due.same("printed", x.print(0), text.length());
    }
}
