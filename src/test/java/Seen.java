/**
 * All that can be asked of an object, as a text with a line for each thing it holds: two objects that answer all of it
 * alike are alike. Each line is asked of an object made anew, so that no question hides what another one would see.
 */
final class Seen {
    private static final int[] DAYS = {2, 3, 4, 5, 8, 9, 9999};

    interface Made {
        PlanText make();
    }

    private interface Look {
        void at(PlanText x, Seen seen);
    }

    private final StringBuilder text = new StringBuilder();

    private Seen() {
    }

    static String of(Made made) {
        Seen seen = new Seen();
        seen.line("place", made, (x, s) -> s.see(x::place));
        seen.line("counts", made, (x, s) -> s.seeEach(4, what -> x.count(what)));
        seen.line("needs", made, (x, s) -> s.seeNeeds(x));
        seen.line("latest print", made, (x, s) -> s.seeEach(200, i -> x.at(i)));
        seen.line("lacks", made, (x, s) -> s.seeDays(day -> s.seeEach(17, i -> x.lacks(day, i))));
        seen.line("clashes", made, (x, s) -> s.seeDays(day -> s.seeEach(3, i -> x.clash(day, i))));
        seen.line("never", made, (x, s) -> s.seeDays(day -> s.seeEach(3, i -> x.never(day, i))));
        seen.line("standby", made, (x, s) -> s.seeDays(day -> s.seeEach(8, skill -> x.standby(skill, 23, 99, day))));
        seen.line("plans", made, (x, s) -> s.seeDays(day -> s.seePlans(x, day)));
        seen.line("prints", made, (x, s) -> s.seeDays(day -> s.seePrint(x, day)));
        seen.line("tape", made, (x, s) -> s.seeTape(x));
        return seen.text.toString();
    }

    /** What was seen, but for one line of it. */
    static String without(String name, String seen) {
        return seen.replaceFirst("(?m)^" + name + ":.*\n", "");
    }

    private void line(String name, Made made, Look look) {
        text.append(name).append(":");
        look.at(made.make(), this);
        text.append("\n");
    }

    private interface Numbered {
        long answer(int i);
    }

    private interface OfDay {
        void see(int day);
    }

    private void see(Due.Call call) {
        text.append(' ').append(Due.outcome(call));
    }

    private void seeEach(int many, Numbered numbered) {
        for (int i = 0; i < many; i++) {
            int asked = i;
            see(() -> numbered.answer(asked));
        }
    }

    private void seeDays(OfDay ofDay) {
        for (int day : DAYS) {
            text.append(" day ").append(day);
            ofDay.see(day);
        }
    }

    private void seeNeeds(PlanText x) {
        for (int i = 0; i < 3; i++) {
            int need = i;
            seeEach(5, what -> x.need(need, what));
        }
    }

    private void seePlans(PlanText x, int day) {
        for (int kind = 1; kind <= 3; kind++) {
            int asked = kind;
            see(() -> x.plan(asked, 7, 15, 12, day));
            seeNeeds(x);
        }
    }

    private void seePrint(PlanText x, int day) {
        see(() -> x.print(day));
        seeEach(40, i -> x.at(i));
    }

    private void seeTape(PlanText x) {
        see(() -> x.sign(' ', 1));
        see(() -> x.read(9999));
        see(x::place);
        seePrint(x, 9999);
    }
}
