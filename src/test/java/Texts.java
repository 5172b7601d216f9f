/** Texts made up by a fixed rule, so that each run of the tests sees the same ones. */
final class Texts {
    private static final String SIGNS = "pkdrs@#-[]:,;/~0123456789abcdefgh ix";
    private long state;

    Texts(long seed) {
        state = seed;
    }

    int below(int bound) {
        state = state * 6364136223846793005L + 1442695040888963407L;
        return (int) ((state >>> 33) % bound);
    }

    boolean once(int in) {
        return below(in) == 0;
    }

    private int house() {
        return once(4) ? Model.HIGH + below(1000 - Model.HIGH) : 1 + below(Model.LOW);
    }

    private String hours() {
        return "[" + below(24) + "-" + below(24) + "]";
    }

    private char skill() {
        return (char) ('a' + below(8));
    }

    private String needs() {
        StringBuilder needs = new StringBuilder();
        int many = once(2) ? 1 : 1 + below(5);
        for (int i = 0; i < many; i++) {
            needs.append(i == 0 ? ":" : ",").append(1 + below(9));
            int skill = below(8);
            needs.append((char) ('a' + skill));
            int alternatives = below(3);
            for (int a = 1; a <= alternatives; a++) {
                needs.append('/').append((char) ('a' + (skill + 3 * a) % 8));
            }
            if (once(3)) {
                needs.append('~').append(1 + below(99));
            }
        }
        return needs.append(';').toString();
    }

    /** Few kinds, streets and ranks, so that plans meet often. */
    private String plan(int number) {
        StringBuilder row = new StringBuilder("p").append(number).append("k").append(1 + below(2));
        if (!once(3)) {
            int a = house();
            int b = house();
            row.append("@").append(once(2) ? 1 : 98 + below(2));
            row.append("#").append(Math.min(a, b)).append("-").append(Math.max(a, b));
        }
        if (once(2)) {
            row.append(hours());
        }
        return row.append("r").append(below(3)).append(once(4) ? needs() : ":1" + skill() + ";").toString();
    }

    String right() {
        StringBuilder text = new StringBuilder();
        boolean[] plans = new boolean[41];
        boolean[] kinds = new boolean[10];
        int standby = 0;
        int rows = below(24);
        for (int i = 0; i < rows; i++) {
            String row = "";
            int what = below(10);
            int number = once(2) ? 1 + below(9) : 1 + below(40);
            if (what < 7 && !plans[number]) {
                plans[number] = true;
                row = plan(number);
            } else if (what < 9 && number < 10 && !kinds[number]) {
                kinds[number] = true;
                row = "d" + number + needs();
            } else if (what == 9 && standby < 8) {
                standby++;
                row = "s" + hours() + (1 + below(9)) + ":" + (1 + below(9)) + skill() + ";";
            }
            if (text.length() + row.length() <= 400) {
                text.append(row);
            }
        }
        return once(3) ? blanked(text.toString()) : text.toString();
    }

    private String blanked(String text) {
        StringBuilder blanked = new StringBuilder();
        for (int i = 0; i < text.length(); i++) {
            boolean within = i > 0 && Character.isDigit(text.charAt(i)) && Character.isDigit(text.charAt(i - 1));
            if (!within && once(4) && blanked.length() + text.length() - i < 400) {
                blanked.append(' ');
            }
            blanked.append(text.charAt(i));
        }
        return blanked.toString();
    }

    /** A right text with some bytes put in, taken out or changed: often wrong, at any place. */
    String bent() {
        StringBuilder text = new StringBuilder(right());
        int bends = 1 + below(2);
        for (int i = 0; i < bends; i++) {
            char sign = SIGNS.charAt(below(SIGNS.length()));
            int at = below(text.length() + 1);
            int how = below(6);
            if (how == 0) {
                text.setLength(at);
            } else if (how == 1 && at < text.length()) {
                text.deleteCharAt(at);
            } else if (how == 2 && at < text.length()) {
                text.setCharAt(at, sign);
            } else if (how == 3 && at < text.length() && Character.isDigit(text.charAt(at))) {
                text.insert(at, below(10));
            } else if (text.length() < 400) {
                text.insert(at, sign);
            }
        }
        text.setLength(Math.min(text.length(), 400));
        return text.toString();
    }
}
