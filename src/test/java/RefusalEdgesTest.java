/** Terms: the refusals, their order, and that a refused call changes nothing. */
public final class RefusalEdgesTest {
    private static final String ORDER = "Refusals, in this order: an unknown number: IllegalArgumentException;"
        + " a number outside its range: IndexOutOfBoundsException; not in this state: IllegalStateException;"
        + " no room: UnsupportedOperationException.";
    private static final String NOTHING = "What is refused changes nothing (but the tape is used up, where that is said).";

    private interface Refused {
        long call(PlanText x);
    }

    public static void main(String[] args) {
        Due.sentence(ORDER);
        tellsUnknownAheadOfRange();
        tellsRangeAheadOfState();
        tellsRangeAheadOfRoom();
        tellsStateAheadOfRoom();
        Due.sentence(NOTHING);
        leavesAllWhenUnknown();
        leavesAllWhenOutside();
        leavesAllWithoutRoomOnTheTape();
        usesUpTheTapeOfAWrongText();
        usesUpTheTapeWithoutRoom();
        Due.end();
    }

    private static void tellsUnknownAheadOfRange() {
        PlanText x = Lived.with("");
        for (int n : new int[] {-1, 100}) {
            Due.unknown("town -1 " + n, () -> Due.town(x, -1, n));
            Due.unknown("town 8 " + n, () -> Due.town(x, 8, n));
        }
        for (int kind : new int[] {0, 10}) {
            Due.unknown("plan and street", () -> x.plan(kind, 0, 1, 0, 0));
            Due.unknown("plan and street", () -> x.plan(kind, 100, 1, 0, 0));
            Due.unknown("plan and house", () -> x.plan(kind, 1, 0, 0, 0));
            Due.unknown("plan and house", () -> x.plan(kind, 1, 1000, 0, 0));
            Due.unknown("plan and hour", () -> x.plan(kind, 1, 1, -1, 0));
            Due.unknown("plan and hour", () -> x.plan(kind, 1, 1, 24, 0));
            Due.unknown("plan and day", () -> x.plan(kind, 1, 1, 0, -1));
            Due.unknown("plan and day", () -> x.plan(kind, 1, 1, 0, 10000));
        }
        for (int skill : new int[] {-1, 8}) {
            Due.unknown("standby and hour", () -> x.standby(skill, -1, 0, 0));
            Due.unknown("standby and hour", () -> x.standby(skill, 24, 0, 0));
            Due.unknown("standby and calls", () -> x.standby(skill, 0, -1, 0));
            Due.unknown("standby and calls", () -> x.standby(skill, 0, 100, 0));
            Due.unknown("standby and day", () -> x.standby(skill, 0, 0, -1));
            Due.unknown("standby and day", () -> x.standby(skill, 0, 0, 10000));
        }
    }

    private static void tellsRangeAheadOfState() {
        for (int day : new int[] {-1, 10000}) {
            PlanText x = Lived.with("p0");
            Due.outside("read of a wrong text for day " + day, () -> x.read(day));
        }
    }

    private static void tellsRangeAheadOfRoom() {
        for (int day : new int[] {-1, 10000}) {
            PlanText x = Lived.full("d1:1a;");
            Due.outside("read of a seventh text for day " + day, () -> x.read(day));
        }
        PlanText y = Lived.with(" ".repeat(400));
        Due.outside("no bytes on a full tape", () -> y.sign(' ', 0));
        Due.outside("nine bytes on a full tape", () -> y.sign(' ', 9));
    }

    private static void tellsStateAheadOfRoom() {
        PlanText x = Lived.full("p0");
        Due.notNow("read of a wrong seventh text", () -> x.read(5));
        Due.same("where it is wrong", x.place(), 1);
    }

    private static void leavesAllWhenUnknown() {
        unknown("town -1", x -> Due.town(x, -1, 9));
        unknown("town 8", x -> Due.town(x, 8, 9));
        unknown("plan of kind 0", x -> x.plan(0, 7, 15, 12, 9));
        unknown("plan of kind 10", x -> x.plan(10, 7, 15, 12, 9));
        unknown("need -1", x -> x.need(-1, 0));
        unknown("need 2", x -> x.need(2, 0));
        unknown("need 5", x -> x.need(5, 0));
        unknown("need's what -1", x -> x.need(0, -1));
        unknown("need's what 5", x -> x.need(0, 5));
        unknown("standby of skill -1", x -> x.standby(-1, 0, 0, 9));
        unknown("standby of skill 8", x -> x.standby(8, 0, 0, 9));
        unknown("count -1", x -> x.count(-1));
        unknown("count 4", x -> x.count(4));
    }

    private static void leavesAllWhenOutside() {
        outside("sign of 0 bytes", x -> x.sign('x', 0));
        outside("sign of 9 bytes", x -> x.sign('x', 9));
        outside("sign of -1 bytes", x -> x.sign('x', -1));
        outside("town of -1 units", x -> Due.town(x, 0, -1));
        outside("town of 100 units", x -> Due.town(x, 0, 100));
        outside("street 0", x -> x.plan(1, 0, 15, 12, 9));
        outside("street 100", x -> x.plan(1, 100, 15, 12, 9));
        outside("house 0", x -> x.plan(1, 7, 0, 12, 9));
        outside("house 1000", x -> x.plan(1, 7, 1000, 12, 9));
        outside("hour -1", x -> x.plan(1, 7, 15, -1, 9));
        outside("hour 24", x -> x.plan(1, 7, 15, 24, 9));
        outside("standby's hour -1", x -> x.standby(0, -1, 0, 9));
        outside("standby's hour 24", x -> x.standby(0, 24, 0, 9));
        outside("calls -1", x -> x.standby(0, 0, -1, 9));
        outside("calls 100", x -> x.standby(0, 0, 100, 9));
        for (int day : new int[] {-1, 10000, Integer.MIN_VALUE, Integer.MAX_VALUE}) {
            outside("read for day " + day, x -> x.read(day));
            outside("plan on day " + day, x -> x.plan(1, 7, 15, 12, day));
            outside("standby on day " + day, x -> x.standby(0, 0, 0, day));
            outside("clash on day " + day, x -> x.clash(day, 0));
            outside("never on day " + day, x -> x.never(day, 0));
            outside("lacks on day " + day, x -> x.lacks(day, 0));
            outside("print of day " + day, x -> x.print(day));
        }
        for (int i : new int[] {-1, Integer.MIN_VALUE}) {
            outside("clash " + i, x -> x.clash(9, i));
            outside("never " + i, x -> x.never(9, i));
            outside("lacks " + i, x -> x.lacks(9, i));
            outside("at " + i, x -> x.at(i));
        }
    }

    private static void leavesAllWithoutRoomOnTheTape() {
        String text = " ".repeat(387) + "p1k1r0:1a";
        for (int n = 5; n <= 8; n++) {
            int bytes = n;
            leavesAll(UnsupportedOperationException.class, n + " bytes behind 396", text,
                x -> x.sign(Due.packed("/b/c~99;"), bytes));
        }
        PlanText y = Lived.with(text);
        Due.noRoom("8 bytes behind 396", () -> y.sign(Due.packed("/b/c~99;"), 8));
        Due.same("4 bytes behind 396", y.sign(Due.packed("/b ;"), 4), 400);
        Due.same("read of the full tape", y.read(9), 1);
        Due.same("print of the full tape", Due.printed(y, 9), "p1k1r0:1a/b;");
    }

    private static void usesUpTheTapeOfAWrongText() {
        for (String text : new String[] {"p1kx", "p7k1r0:1a;d7:1a;s[0-23]1:1a;x", "p7k1r0:1a;d7:1a", "x"}) {
            Due.same("all but the place behind " + text,
                Seen.without("place", Seen.of(() -> behindAWrongText(text))), Seen.without("place", Seen.of(Lived::begun)));
            Due.same("place of " + text, behindAWrongText(text).place(), Model.placeOf(text));
        }
    }

    private static PlanText behindAWrongText(String text) {
        PlanText x = Lived.begun();
        Due.tape(x, text);
        Due.notNow("read of " + text, () -> x.read(9));
        return x;
    }

    private static void usesUpTheTapeWithoutRoom() {
        Due.same("all behind a seventh text", Seen.of(RefusalEdgesTest::behindASeventhText), Seen.of(() -> Lived.full("")));
    }

    private static PlanText behindASeventhText() {
        PlanText x = Lived.full("p1x");
        Due.notNow("a wrong text", () -> x.read(9));
        Due.tape(x, "d1:1a;");
        Due.noRoom("a seventh text", () -> x.read(9));
        return x;
    }

    private static void unknown(String what, Refused refused) {
        leavesAll(IllegalArgumentException.class, what, "d3:1a;", refused);
    }

    private static void outside(String what, Refused refused) {
        leavesAll(IndexOutOfBoundsException.class, what, "d3:1a;", refused);
    }

    private static void leavesAll(Class<? extends RuntimeException> due, String what, String tape, Refused refused) {
        Seen.Made behind = () -> {
            PlanText x = Lived.with(tape);
            Due.refused(what, due, () -> refused.call(x));
            return x;
        };
        Due.same("all behind the refusal of " + what, Seen.of(behind), Seen.of(() -> Lived.with(tape)));
    }
}
