/** What the tests share: tapes, answers that are due, refusals that are due. */
final class Due {
    private static int asked = 0;
    private static int wrong = 0;
    private static String sentence = "";

    interface Call {
        long answer();
    }

    private Due() {
    }

    /** The document's words that the next answers are about, told with each that is not as due. */
    static void sentence(String words) {
        sentence = words;
    }

    static void same(String what, long got, long want) {
        same(what, Long.toString(got), Long.toString(want));
    }

    static void same(String what, String got, String want) {
        asked++;
        if (!got.equals(want)) {
            wrong++;
            System.out.println(what + " answered " + got + ", due is " + want
                + (sentence.isEmpty() ? "" : " (" + sentence + ")"));
        }
    }

    /** The exception's class itself is due, not one below it, such as the machine throws. */
    static void refused(String what, Class<? extends RuntimeException> want, Call call) {
        same(what, outcome(call), "throws." + want.getSimpleName());
    }

    static void unknown(String what, Call call) {
        refused(what, IllegalArgumentException.class, call);
    }

    static void outside(String what, Call call) {
        refused(what, IndexOutOfBoundsException.class, call);
    }

    static void notNow(String what, Call call) {
        refused(what, IllegalStateException.class, call);
    }

    static void noRoom(String what, Call call) {
        refused(what, UnsupportedOperationException.class, call);
    }

    static String outcome(Call call) {
        try {
            return Long.toString(call.answer());
        } catch (RuntimeException e) {
            return "throws." + e.getClass().getSimpleName();
        }
    }

    static int tape(PlanText x, String text) {
        int length = 0;
        for (int from = 0; from < text.length(); from += 8) {
            String part = text.substring(from, Math.min(from + 8, text.length()));
            length = x.sign(packed(part), part.length());
        }
        return length;
    }

    static long packed(String part) {
        long bytes = 0;
        for (int i = 0; i < part.length(); i++) {
            bytes = bytes << 8 | part.charAt(i);
        }
        return bytes;
    }

    static int read(PlanText x, String text, int day) {
        tape(x, text);
        return x.read(day);
    }

    /** An object with one edition, from day 0 on. */
    static PlanText with(String text) {
        PlanText x = new PlanText();
        read(x, text, 0);
        return x;
    }

    static String printed(PlanText x, int day) {
        StringBuilder text = new StringBuilder();
        int length = x.print(day);
        for (int i = 0; i < length; i++) {
            text.append((char) x.at(i));
        }
        return text.toString();
    }

    static long town(PlanText x, int skill, int n) {
        x.town(skill, n);
        return 0;
    }

    static void end() {
        System.out.println(asked + " answers, " + wrong + " of them not as due");
        if (wrong != 0) {
            System.exit(1);
        }
    }
}
