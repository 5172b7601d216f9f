/** Promise 3: read. */
public final class ReadTest {
    public static void main(String[] args) {
        tellsHowManyPlans();
        usesUpTheTape();
        leavesTheTapeOutsideTheRange();
        refusesAWrongText();
        hasRoomForSix();
        tellsWrongAheadOfNoRoom();
        Due.end();
    }

    private static void tellsHowManyPlans() {
        Due.sentence("The tape .. becomes an edition for a day on: how many plans it has.");
        PlanText x = new PlanText();
        Due.same("no bytes", x.read(0), 0);
        Due.same("blanks alone", Due.read(x, "   ", 0), 0);
        Due.same("no plan", Due.read(x, "d1:1a;s[0-0]1:1a;", 0), 0);
        Due.same("one plan", Due.read(x, "d1:1a;p40k1r0:1a;s[0-0]1:1a;", 0), 1);
        Due.same("two plans", Due.read(x, "p40k9r9:9h;d1:1a;p1k1r0:1a;", 9999), 2);
        Due.same("editions", x.count(0), 5);

        StringBuilder most = new StringBuilder();
        for (int number = 37; number >= 1; number--) {
            most.append("p").append(number).append("k1r0:1a;");
        }
        PlanText y = new PlanText();
        Due.same("as many as a text has bytes for", Due.read(y, most.toString(), 0), 37);
        Due.same("the lowest of them", y.plan(1, 1, 1, 1, 0), 1);
        Due.same("the last pair", y.clash(0, 37 * 36 / 2 - 1), 3637);
        Due.same("no more pairs", y.clash(0, 37 * 36 / 2), -1);
        Due.same("the last never met", y.never(0, 35), 37);
        Due.same("no more never met", y.never(0, 36), -1);
        Due.same("the last that lacks", y.lacks(0, 36), 37);
        Due.same("no more that lack", y.lacks(0, 37), -1);
        Due.same("printed", y.print(0), most.length());
    }

    private static void usesUpTheTape() {
        Due.sentence("The tape (used up, also when this throws");
        PlanText x = new PlanText();
        Due.read(x, "p1k1r0:1a;", 0);
        Due.same("used up by a right text", x.sign('x', 1), 1);
        Due.notNow("a wrong text", () -> x.read(0));
        Due.same("used up by a wrong text", x.sign(' ', 1), 1);
        for (int i = 2; i <= 6; i++) {
            x.read(0);
        }
        Due.tape(x, "p1k1r0:1a;");
        Due.noRoom("a seventh text", () -> x.read(0));
        Due.same("used up without room", x.sign('x', 1), 1);
        Due.notNow("a wrong seventh text", () -> x.read(0));
        Due.same("used up by a wrong seventh text", x.sign(' ', 1), 1);
    }

    private static void leavesTheTapeOutsideTheRange() {
        Due.sentence("but for the range) .. Range: the day");
        PlanText x = new PlanText();
        Due.tape(x, "p1k1r0:");
        for (int day : new int[] {-1, 10000, Integer.MIN_VALUE, Integer.MAX_VALUE}) {
            Due.outside("day " + day, () -> x.read(day));
        }
        Due.same("no place", x.place(), -1);
        Due.same("the tape is there", x.sign(Due.packed("1a;"), 3), 10);
        Due.same("the least day", x.read(0), 1);
        Due.tape(x, "d1:1a;p2k1r0:1a;");
        Due.same("the greatest day", x.read(9999), 1);
    }

    private static void refusesAWrongText() {
        Due.sentence("state: it is wrong");
        PlanText x = new PlanText();
        Due.read(x, "p1k1r0:1a;d2:1a;", 3);
        for (String text : new String[] {"x", "p", "p1k1r0:1a", "p2k1r0:1a;p2k1r0:1a;", "p2k1r0:1a;d2:1a;!"}) {
            Due.tape(x, text);
            Due.notNow("read of " + text, () -> x.read(3));
            Due.same("editions", x.count(0), 1);
            Due.same("the latest's plans", x.count(1), 1);
            Due.same("the day's plan", x.plan(1, 1, 1, 1, 3), 1);
            Due.same("the day's default", x.plan(2, 1, 1, 1, 9999), 0);
        }
    }

    private static void hasRoomForSix() {
        Due.sentence("no room: there are 6");
        PlanText x = new PlanText();
        for (int i = 1; i <= 6; i++) {
            Due.same("edition " + i, Due.read(x, "p" + i + "k1r0:1a;", 5), 1);
        }
        Due.tape(x, "p7k1r0:1a;d1:1a;");
        Due.noRoom("a seventh", () -> x.read(5));
        Due.noRoom("a seventh without rows", () -> x.read(9));
        Due.tape(x, "p7k1r0:1a;");
        Due.outside("range ahead of room", () -> x.read(-1));
        Due.outside("range ahead of room", () -> x.read(10000));
        Due.noRoom("a seventh for an earlier day", () -> x.read(0));
        Due.same("editions", x.count(0), 6);
        Due.same("the latest's plans", x.count(1), 1);
        Due.same("the latest's defaults", x.count(2), 0);
        Due.same("an earlier day's plan", x.plan(1, 1, 1, 1, 4), -1);
        Due.same("the day's plan", x.plan(1, 1, 1, 1, 5), 6);
        Due.same("a later day's plan", x.plan(1, 1, 1, 1, 9), 6);
    }

    private static void tellsWrongAheadOfNoRoom() {
        Due.sentence("(a wrong text is told ahead of that; place() is -1 then)");
        PlanText x = new PlanText();
        for (int i = 1; i <= 6; i++) {
            x.read(0);
        }
        Due.tape(x, "p1k1r");
        Due.notNow("a wrong seventh", () -> x.read(5));
        Due.same("its place", x.place(), 5);
        Due.tape(x, "d1:1a;");
        Due.noRoom("a right seventh", () -> x.read(5));
        Due.same("its place", x.place(), -1);
        Due.tape(x, "x");
        Due.notNow("a wrong seventh again", () -> x.read(5));
        Due.same("its place", x.place(), 0);
        Due.noRoom("an empty seventh", () -> x.read(5));
        Due.same("its place", x.place(), -1);
    }
}
