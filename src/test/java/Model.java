import java.util.ArrayList;
import java.util.List;
import java.util.TreeMap;
import java.util.TreeSet;
import java.util.regex.Matcher;
import java.util.regex.Pattern;

/**
 * The document said once more, in another way than the class does: texts by patterns, questions by
 * asking every call there is. Slow, and only for texts whose houses are at most LOW or at least HIGH.
 */
final class Model {
    static final int LOW = 12;
    static final int HIGH = 996;

    private static final String N = "[1-9][0-9]{0,2}";
    private static final String Z = "(?:0|" + N + ")";
    private static final String NEED = "N[a-h](?:/[a-h]){0,2}(?:~N)?";
    private static final String NEEDS = NEED + "(?:," + NEED + "){0,4}";
    private static final String HOURS = "\\[Z-Z\\]";
    private static final String ROW = "pNkN(?:@N#N-N)?(?:" + HOURS + ")?rZ:" + NEEDS
            + "|dN:" + NEEDS + "|s" + HOURS + "N:N[a-h]";
    private static final Pattern TEXT = Pattern.compile(blanked("(?:(?:" + ROW + ");)*"));

    private static final Pattern PLAN = Pattern.compile(
            "p(\\d+)k(\\d)(?:@(\\d+)#(\\d+)-(\\d+))?(?:\\[(\\d+)-(\\d+)\\])?r(\\d):(.*)");
    private static final Pattern NEED_PARTS = Pattern.compile("(\\d)([a-h])(?:/([a-h]))?(?:/([a-h]))?(?:~(\\d+))?");
    private static final Pattern STANDBY = Pattern.compile("s\\[(\\d+)-(\\d+)\\](\\d):(\\d)([a-h])");

    private record Plan(int number, int kind, int street, int from, int to, TreeSet<Integer> hours, int rank,
            String needs, String row) {
        boolean fits(int callKind, int callStreet, int house, int hour) {
            return kind == callKind && (street == 0 || street == callStreet && house >= from && house <= to)
                    && hours.contains(hour);
        }
    }

    private static final class Edition {
        int day;
        final TreeMap<Integer, Plan> plans = new TreeMap<>();
        final TreeMap<Integer, String> defaults = new TreeMap<>();
        final List<String> standby = new ArrayList<>();
    }

    private final StringBuilder tape = new StringBuilder();
    private final List<Edition> editions = new ArrayList<>();
    private final int[] units = new int[8];
    private int place = -1;
    private String told = "";
    private String printed = "";

    /** Blanks are let in ahead of every sign and at the end; N and Z are whole numbers. */
    private static String blanked(String signs) {
        StringBuilder pattern = new StringBuilder();
        for (int i = 0; i < signs.length(); i++) {
            char c = signs.charAt(i);
            if (c == '\\') {
                pattern.append(" *").append(c).append(signs.charAt(++i));
            } else if (c == 'N' || c == 'Z') {
                pattern.append(" *").append(c == 'N' ? N : Z);
            } else if (signs.startsWith("[a-h]", i)) {
                pattern.append(" *[a-h]");
                i += 4;
            } else if (c == '{') {
                pattern.append(signs, i, signs.indexOf('}', i) + 1);
                i = signs.indexOf('}', i);
            } else if (c == '(') {
                pattern.append("(?:");
                i += 2;
            } else if (")?*|".indexOf(c) >= 0) {
                pattern.append(c);
            } else {
                pattern.append(" *").append(c);
            }
        }
        return pattern.append(" *").toString();
    }

    static int placeOf(String text) {
        int syntax = text.length();
        for (int end = 1; end <= text.length(); end++) {
            Matcher prefix = TEXT.matcher(text.substring(0, end));
            if (!prefix.matches() && !prefix.hitEnd()) {
                syntax = end - 1;
                break;
            }
        }
        int meaning = meaningPlace(text, syntax);
        int first = Math.min(syntax, meaning);
        return first == text.length() && TEXT.matcher(text).matches() ? -1 : first;
    }

    /** The first byte ahead of an end where a number, a skill or a row is not as it may be. */
    private static int meaningPlace(String text, int end) {
        TreeSet<Integer> plans = new TreeSet<>();
        TreeSet<Integer> kinds = new TreeSet<>();
        TreeSet<Character> skills = new TreeSet<>();
        char before = ';';
        char bracket = '#';
        int house = 0;
        int standby = 0;
        for (int i = 0; i < end; i++) {
            char c = text.charAt(i);
            if (c == ' ') {
                continue;
            }
            if (c >= '0' && c <= '9') {
                int last = i;
                while (c != '0' && last + 1 < text.length() && last - i < 2 && Character.isDigit(text.charAt(last + 1))) {
                    last++;
                }
                int value = Integer.parseInt(text.substring(i, last + 1));
                int low = before == '[' || before == 'r' || before == '-' && bracket == '[' ? 0
                        : before == '-' ? house : 1;
                if (value < low || value > most(before, bracket)
                        || before == 'p' && !plans.add(value) || before == 'd' && !kinds.add(value)) {
                    return last;
                }
                house = value;
                i = last;
                c = '0';
            } else if (c == '#' || c == '[') {
                bracket = c;
            } else if (c == ':' || c == ',') {
                skills.clear();
            } else if (c == 's' && ++standby > 8) {
                return i;
            } else if (c >= 'a' && c <= 'h' && before != ';' && !skills.add(c)) {
                return i;
            }
            before = c;
        }
        return end;
    }

    private static int most(char before, char bracket) {
        switch (before) {
            case 'p':
                return 40;
            case '@':
            case '~':
                return 99;
            case '#':
                return 999;
            case '[':
                return 23;
            case '-':
                return bracket == '[' ? 23 : 999;
            default:
                return 9;
        }
    }

    private static TreeSet<Integer> hours(String first, String last) {
        TreeSet<Integer> hours = new TreeSet<>();
        int hour = first == null ? 0 : Integer.parseInt(first);
        int end = last == null ? 23 : Integer.parseInt(last);
        hours.add(hour);
        while (hour != end) {
            hour = (hour + 1) % 24;
            hours.add(hour);
        }
        return hours;
    }

    private static int number(String digits, int otherwise) {
        return digits == null ? otherwise : Integer.parseInt(digits);
    }

    private static Edition edition(String text, int day) {
        Edition edition = new Edition();
        edition.day = day;
        for (String row : text.replace(" ", "").split(";")) {
            Matcher plan = PLAN.matcher(row);
            if (plan.matches()) {
                int number = number(plan.group(1), 0);
                edition.plans.put(number, new Plan(number, number(plan.group(2), 0), number(plan.group(3), 0),
                        number(plan.group(4), 1), number(plan.group(5), 999), hours(plan.group(6), plan.group(7)),
                        number(plan.group(8), 0), plan.group(9), row + ";"));
            } else if (row.startsWith("d")) {
                edition.defaults.put(row.charAt(1) - '0', row.substring(3));
            } else if (row.startsWith("s")) {
                edition.standby.add(row);
            }
        }
        return edition;
    }

    int sign(long bytes, int n) {
        require(n >= 1 && n <= 8);
        if (tape.length() + n > 400) {
            throw new UnsupportedOperationException();
        }
        for (int i = n - 1; i >= 0; i--) {
            tape.append((char) (bytes >> 8 * i & 255));
        }
        return tape.length();
    }

    int read(int day) {
        require(day >= 0 && day <= 9999);
        String text = tape.toString();
        tape.setLength(0);
        place = placeOf(text);
        if (place >= 0) {
            throw new IllegalStateException();
        }
        if (editions.size() == 6) {
            throw new UnsupportedOperationException();
        }
        editions.add(edition(text, day));
        return editions.get(editions.size() - 1).plans.size();
    }

    int place() {
        return place;
    }

    int town(int skill, int n) {
        know(skill >= 0 && skill <= 7);
        require(n >= 0 && n <= 99);
        units[skill] = n;
        return 0;
    }

    private static int planOf(Edition edition, int kind, int street, int house, int hour) {
        for (int rank = 9; rank >= 0; rank--) {
            for (Plan plan : edition.plans.values()) {
                if (plan.rank() == rank && plan.fits(kind, street, house, hour)) {
                    return plan.number();
                }
            }
        }
        return edition.defaults.containsKey(kind) ? 0 : -1;
    }

    int plan(int kind, int street, int house, int hour, int day) {
        know(kind >= 1 && kind <= 9);
        require(street >= 1 && street <= 99 && house >= 1 && house <= 999 && hour >= 0 && hour <= 23);
        Edition edition = of(day);
        int plan = planOf(edition, kind, street, house, hour);
        told = plan > 0 ? edition.plans.get(plan).needs() : plan == 0 ? edition.defaults.get(kind) : "";
        return plan;
    }

    int need(int i, int what) {
        String[] needs = told.split(",");
        know(!told.isEmpty() && i >= 0 && i < needs.length && what >= 0 && what <= 4);
        Matcher parts = NEED_PARTS.matcher(needs[i]);
        know(parts.matches());
        String part = parts.group(what + 1);
        return part == null ? -1 : what == 0 || what == 4 ? Integer.parseInt(part) : part.charAt(0) - 'a';
    }

    int standby(int skill, int hour, int calls, int day) {
        know(skill >= 0 && skill <= 7);
        require(hour >= 0 && hour <= 23 && calls >= 0 && calls <= 99);
        int sum = 0;
        for (String row : of(day).standby) {
            Matcher parts = STANDBY.matcher(row);
            if (parts.matches() && hours(parts.group(1), parts.group(2)).contains(hour)
                    && number(parts.group(3), 0) <= calls && parts.group(5).charAt(0) - 'a' == skill) {
                sum += number(parts.group(4), 0);
            }
        }
        return sum;
    }

    int clash(int day, int i) {
        Edition edition = of(day);
        require(i >= 0);
        TreeSet<Integer> pairs = new TreeSet<>();
        for (Plan a : edition.plans.values()) {
            for (Plan b : edition.plans.tailMap(a.number(), false).values()) {
                if (a.rank() == b.rank() && a.kind() == b.kind() && meet(a, b)) {
                    pairs.add(100 * a.number() + b.number());
                }
            }
        }
        return nth(pairs, i);
    }

    private static boolean meet(Plan a, Plan b) {
        int street = Math.max(a.street(), b.street());
        for (int hour = 0; hour < 24; hour++) {
            for (int house = 1; house <= 999; house = next(house)) {
                if (a.fits(a.kind(), street, house, hour) && b.fits(a.kind(), street, house, hour)) {
                    return true;
                }
            }
        }
        return false;
    }

    /** Between the houses of all plans, one is as good as another. */
    private static int next(int house) {
        return house == LOW + 1 ? HIGH - 1 : house + 1;
    }

    int never(int day, int i) {
        Edition edition = of(day);
        require(i >= 0);
        TreeSet<Integer> never = new TreeSet<>(edition.plans.keySet());
        TreeSet<Integer> streets = new TreeSet<>();
        TreeSet<Integer> kinds = new TreeSet<>();
        for (Plan plan : edition.plans.values()) {
            streets.add(plan.street());
            kinds.add(plan.kind());
        }
        streets.remove(0);
        for (int street = 1; street <= 99 && streets.size() < 99; street++) {
            if (streets.add(street)) {
                break;
            }
        }
        for (int kind : kinds) {
            for (int street : streets) {
                for (int house = 1; house <= 999 && !never.isEmpty(); house = next(house)) {
                    for (int hour = 0; hour < 24; hour++) {
                        never.remove(planOf(edition, kind, street, house, hour));
                    }
                }
            }
        }
        return nth(never, i);
    }

    int lacks(int day, int i) {
        Edition edition = of(day);
        require(i >= 0);
        TreeSet<Integer> lacking = new TreeSet<>();
        for (Plan plan : edition.plans.values()) {
            for (String need : plan.needs().split(",")) {
                int there = 0;
                for (String skill : need.replaceAll("~.*", "").substring(1).split("/")) {
                    there += units[skill.charAt(0) - 'a'];
                }
                if (need.charAt(0) - '0' > there) {
                    lacking.add(plan.number());
                }
            }
        }
        return nth(lacking, i);
    }

    int print(int day) {
        Edition edition = of(day);
        StringBuilder text = new StringBuilder();
        for (Plan plan : edition.plans.values()) {
            text.append(plan.row());
        }
        for (int kind : edition.defaults.keySet()) {
            text.append("d").append(kind).append(":").append(edition.defaults.get(kind)).append(";");
        }
        for (String row : edition.standby) {
            text.append(row).append(";");
        }
        printed = text.toString();
        return printed.length();
    }

    int at(int i) {
        require(i >= 0);
        return i < printed.length() ? printed.charAt(i) : -1;
    }

    int count(int what) {
        know(what >= 0 && what <= 3);
        Edition latest = editions.isEmpty() ? new Edition() : editions.get(editions.size() - 1);
        int[] counts = {editions.size(), latest.plans.size(), latest.defaults.size(), latest.standby.size()};
        return counts[what];
    }

    private Edition of(int day) {
        require(day >= 0 && day <= 9999);
        for (int d = day; d >= 0; d--) {
            for (int i = editions.size() - 1; i >= 0; i--) {
                if (editions.get(i).day == d) {
                    return editions.get(i);
                }
            }
        }
        return new Edition();
    }

    private static int nth(TreeSet<Integer> numbers, int i) {
        return i < numbers.size() ? new ArrayList<>(numbers).get(i) : -1;
    }

    private static void know(boolean known) {
        if (!known) {
            throw new IllegalArgumentException();
        }
    }

    private static void require(boolean within) {
        if (!within) {
            throw new IndexOutOfBoundsException();
        }
    }
}
