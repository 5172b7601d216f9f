/** All promises in runs of made-up calls, against the model: also refusals and what they leave. */
public final class RandomRunsTest {
    private static final int[] ODD = {-1, 0, 1, 8, 9, 10, 23, 24, 99, 100, 399, 400, 999, 1000, 9999, 10000,
        Integer.MIN_VALUE, Integer.MAX_VALUE};

    private final Texts by;
    private final PlanText x = new PlanText();
    private final Model model = new Model();
    private final StringBuilder told = new StringBuilder();
    private int calls = 0;

    private RandomRunsTest(Texts by) {
        this.by = by;
    }

    public static void main(String[] args) {
        Texts by = new Texts(512);
        for (int run = 0; run < 400; run++) {
            new RandomRunsTest(by).run();
        }
        Due.end();
    }

    private void run() {
        while (calls < 440) {
            if (by.once(12)) {
                tape(by.once(4) ? by.bent() : by.right());
                int day = number(10, 0);
                due("read " + day, () -> x.read(day), () -> model.read(day));
            } else {
                ask();
            }
        }
    }

    private void due(String call, Due.Call got, Due.Call want) {
        calls++;
        told.append(call).append("; ");
        Due.same(told + "", Due.outcome(got), Due.outcome(want));
    }

    private void tape(String text) {
        for (int from = 0; from < text.length(); from += 8) {
            String part = text.substring(from, Math.min(from + 8, text.length()));
            int n = by.once(60) ? number(9, 0) : part.length();
            due("sign " + part + " " + n, () -> x.sign(Due.packed(part), n), () -> model.sign(Due.packed(part), n));
        }
    }

    private int number(int bound, int low) {
        return by.once(25) ? ODD[by.below(ODD.length)] : low + by.below(bound);
    }

    private void ask() {
        int a = number(9, 0);
        int day = number(12, 0);
        int hour = number(24, 0);
        int i = number(6, 0);
        int kind = number(3, 1);
        int street = by.once(2) ? 1 : number(3, 97);
        int house = by.once(3) ? number(1000 - Model.HIGH, Model.HIGH) : number(Model.LOW, 1);
        switch (by.below(13)) {
            case 0:
                due("place", x::place, model::place);
                break;
            case 1:
                due("town " + a + " " + hour, () -> town(a, hour), () -> model.town(a, hour));
                break;
            case 2:
            case 3:
                due("plan " + kind + " " + street + " " + house + " " + hour + " " + day,
                    () -> x.plan(kind, street, house, hour, day), () -> model.plan(kind, street, house, hour, day));
                break;
            case 4:
            case 5:
                due("need " + i + " " + a % 6, () -> x.need(i, a % 6), () -> model.need(i, a % 6));
                break;
            case 6:
                due("standby " + a + " " + hour + " " + i + " " + day,
                    () -> x.standby(a, hour, i, day), () -> model.standby(a, hour, i, day));
                break;
            case 7:
                due("clash " + day + " " + i, () -> x.clash(day, i), () -> model.clash(day, i));
                break;
            case 8:
                due("never " + day + " " + i, () -> x.never(day, i), () -> model.never(day, i));
                break;
            case 9:
                due("lacks " + day + " " + i, () -> x.lacks(day, i), () -> model.lacks(day, i));
                break;
            case 10:
                due("print " + day, () -> x.print(day), () -> model.print(day));
                break;
            case 11:
                due("at " + house, () -> x.at(house), () -> model.at(house));
                break;
            default:
                due("count " + a % 5, () -> x.count(a % 5), () -> model.count(a % 5));
                break;
        }
    }

    private long town(int skill, int n) {
        x.town(skill, n);
        return 0;
    }
}
