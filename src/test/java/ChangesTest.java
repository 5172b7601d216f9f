/** What a call that is answered changes, and that it changes nothing else. */
public final class ChangesTest {
    private static final String TAPE = "d3:1a;";
    private static final String NEXT = "p8k1r0:1a;d3:1h;";

    private interface Use {
        long call(PlanText x);
    }

    public static void main(String[] args) {
        lives();
        asks();
        signs();
        reads();
        tellsUnits();
        plans();
        prints();
        Due.end();
    }

    /** What is held against itself below is first held against what is due, for each thing by itself. */
    private static void lives() {
        Due.sentence("Nothing is promised beyond the answers and state changes described above");
        Due.same("place", Lived.with(TAPE).place(), 2);
        Due.same("tape", Lived.with(TAPE).sign(' ', 1), 7);
        Due.same("editions", Lived.with(TAPE).count(0), 3);
        Due.same("plans of the latest", Lived.with(TAPE).count(1), 2);
        Due.same("need", Lived.with(TAPE).need(1, 4), 9);
        Due.same("print", Lived.with(TAPE).at(44), ';');
        PlanText x = Lived.with(TAPE);
        for (int skill = 0; skill < 8; skill++) {
            Due.same("units of skill " + skill, x.lacks(3, skill), 2 * skill + 2);
        }
        Due.same("units of all skills", x.lacks(3, 8), -1);
    }

    private static void asks() {
        Due.sentence("Nothing is promised beyond the answers and state changes described above");
        same("place", x -> x.place());
        same("need", x -> x.need(0, 0));
        same("need's limit", x -> x.need(1, 4));
        same("standby", x -> x.standby(0, 23, 9, 5));
        same("clash", x -> x.clash(9, 0));
        same("never", x -> x.never(9, 0));
        same("lacks", x -> x.lacks(9, 0));
        same("no more clash", x -> x.clash(9, 999));
        same("at", x -> x.at(0));
        same("at behind the print", x -> x.at(400));
        for (int what = 0; what <= 3; what++) {
            int asked = what;
            same("count " + what, x -> x.count(asked));
        }
    }

    private static void signs() {
        Due.sentence("bytes .. more on the tape");
        Seen.Made signed = () -> {
            PlanText x = Lived.with("d3:1");
            x.sign(Due.packed("a;"), 2);
            return x;
        };
        Due.same("all behind sign", Seen.of(signed), Seen.of(() -> Lived.with(TAPE)));
    }

    private static void reads() {
        Due.sentence("The tape (used up .. becomes an edition for a day on");
        Seen.Made behind = () -> {
            PlanText x = Lived.with(NEXT);
            x.read(7);
            return x;
        };
        Seen.Made ahead = () -> {
            PlanText x = new PlanText();
            Lived.readThree(x);
            Due.read(x, NEXT, 7);
            Lived.ask(x);
            return x;
        };
        Due.same("all behind read", Seen.of(behind), Seen.of(ahead));
    }

    private static void tellsUnits() {
        Due.sentence("The town's units of a skill");
        for (int skill = 0; skill <= 7; skill++) {
            int told = skill;
            butFor("lacks", "town " + skill, x -> Due.town(x, told, 50));
        }
        same("the same units", x -> Due.town(x, 0, 1));
        same("units there and back", x -> Due.town(x, 1, 9) + Due.town(x, 1, 2));
    }

    private static void plans() {
        Due.sentence("its needs are told by need()");
        butFor("needs", "plan of the other edition", x -> x.plan(1, 7, 15, 12, 9));
        butFor("needs", "the default", x -> x.plan(2, 7, 15, 12, 5));
        butFor("needs", "none", x -> x.plan(9, 7, 15, 12, 9));
        same("the same plan", x -> x.plan(1, 1, 1, 1, 5));
        same("another plan and back", x -> x.plan(2, 1, 1, 1, 5) + x.plan(1, 1, 1, 1, 5));
    }

    private static void prints() {
        Due.sentence("Prints a day's edition");
        butFor("latest print", "print of the other edition", x -> x.print(9));
        butFor("latest print", "print of a day without one", x -> x.print(2));
        same("the same print", x -> x.print(5));
        same("another print and back", x -> x.print(9) + x.print(5));
    }

    private static PlanText behind(Use use) {
        PlanText x = Lived.with(TAPE);
        use.call(x);
        return x;
    }

    private static void same(String what, Use use) {
        Due.same("all behind " + what, Seen.of(() -> behind(use)), Seen.of(() -> Lived.with(TAPE)));
    }

    private static void butFor(String changed, String what, Use use) {
        Due.same("all but the " + changed + " behind " + what, Seen.without(changed, Seen.of(() -> behind(use))),
            Seen.without(changed, Seen.of(() -> Lived.with(TAPE))));
    }
}
