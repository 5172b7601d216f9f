/** What the tests of texts share: texts that are right, and the places where others are wrong. */
final class Rows {
    private Rows() {
    }

    /** The mark ! stands ahead of the wrong byte, or at the end. */
    static void wrong(String marked) {
        int due = marked.indexOf('!');
        wrongAt(marked.substring(0, due) + marked.substring(due + 1), due);
    }

    static void wrongAt(String text, int due) {
        PlanText x = new PlanText();
        Due.tape(x, text);
        Due.notNow("read of " + text, () -> x.read(0));
        Due.same("place of " + text, x.place(), due);
        Due.same("model's place of " + text, Model.placeOf(text), due);
        Due.same("editions from " + text, x.count(0), 0);
    }

    static void right(String text) {
        PlanText x = new PlanText();
        Due.tape(x, text);
        Due.same("read of " + text, Due.outcome(() -> x.read(0)), "" + text.replaceAll("[^p]", "").length());
        Due.same("place of " + text, x.place(), -1);
        Due.same("model's place of " + text, Model.placeOf(text), -1);
    }

    /** A right text whose rows stand in the order of a print, without blanks. */
    static void kept(String text) {
        right(text);
        Due.same("print of " + text, printed(text), text);
    }

    static String printed(String text) {
        PlanText x = new PlanText();
        Due.tape(x, text);
        Due.outcome(() -> x.read(0));
        return Due.printed(x, 0);
    }

    /** From low to high all numbers are right there, those below and above at their last digit not. */
    static void range(String before, int low, int high, String after) {
        for (int n = low; n <= high; n++) {
            kept(before + n + after);
        }
        if (low > 0) {
            wrong(before + "!" + (low - 1) + after);
        }
        int last = before.length() + Integer.toString(high + 1).length() - 1;
        wrongAt(before + (high + 1) + after, last);
        wrongAt(before + (high + 1), last);
    }
}
