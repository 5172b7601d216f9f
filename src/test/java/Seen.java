/** All that can be asked of an object, as a text: two objects that answer all of it alike are alike. */
final class Seen {
    private static final int[] DAYS = {4, 5, 8, 9};

    private final PlanText x;
    private final StringBuilder seen = new StringBuilder();

    private Seen(PlanText x) {
        this.x = x;
    }

    /** First what other questions would change: the needs told and the print; the tape is used up last. */
    static String of(PlanText x) {
        Seen all = new Seen(x);
        all.lookAtLatest();
        for (int day : DAYS) {
            all.lookAtDay(day);
        }
        all.lookAtTape();
        return all.seen.toString();
    }

    private void see(String what, Due.Call call) {
        seen.append(what).append(Due.outcome(call)).append(' ');
    }

    private void lookAtLatest() {
        see("place ", x::place);
        for (int what = 0; what < 4; what++) {
            int asked = what;
            see("count ", () -> x.count(asked));
        }
        for (int i = 0; i < 3; i++) {
            for (int what = 0; what < 5; what++) {
                int need = i;
                int asked = what;
                see("need ", () -> x.need(need, asked));
            }
        }
        lookAtPrint();
    }

    private void lookAtPrint() {
        for (int i = 0; i < 60; i++) {
            int at = i;
            String sign = Due.outcome(() -> x.at(at));
            seen.append(sign).append('.');
            if (sign.equals("-1")) {
                break;
            }
        }
        seen.append(' ');
    }

    private void lookAtDay(int day) {
        for (int i = 0; i < 2; i++) {
            int asked = i;
            see("clash ", () -> x.clash(day, asked));
            see("never ", () -> x.never(day, asked));
            see("lacks ", () -> x.lacks(day, asked));
        }
        see("standby a ", () -> x.standby(0, 23, 99, day));
        see("standby h ", () -> x.standby(7, 0, 1, day));
        for (int kind = 1; kind <= 3; kind++) {
            int asked = kind;
            see("plan ", () -> x.plan(asked, 7, 15, 12, day));
            see("its need ", () -> x.need(0, 0));
        }
        see("print ", () -> x.print(day));
        lookAtPrint();
    }

    private void lookAtTape() {
        see("tape ", () -> x.sign(' ', 1));
        see("read ", () -> x.read(9));
        see("place ", x::place);
        see("print ", () -> x.print(9));
        lookAtPrint();
    }
}
