/**
 * Response plans told in a text, by days: which plan a call has, which plans clash, are never met
 * or lack units, the standby of a skill, and an edition printed again.
 */
public final class PlanText {
    private static final int NONE = -1;
    private static final int MOST_BYTES = 400;
    private static final int MOST_AT_ONCE = 8;
    private static final int MOST_EDITIONS = 6;
    private static final int MOST_STANDBY = 8;
    private static final int MOST_NEEDS = 5;
    private static final int MOST_DIGITS = 3;
    private static final int MOST_UNITS = 99;
    private static final int MOST_OPEN_CALLS = 99;
    private static final int LAST_PLAN = 40;
    private static final int LAST_KIND = 9;
    private static final int LAST_STREET = 99;
    private static final int LAST_HOUSE = 999;
    private static final int LAST_HOUR = 23;
    private static final int LAST_RANK = 9;
    private static final int LAST_COUNT = 9;
    private static final int LAST_CALLS = 9;
    private static final int LAST_LIMIT = 99;
    private static final int LAST_DAY = 9999;
    private static final int SKILLS = 8;

    private final byte[] tape = new byte[MOST_BYTES];
    private int tapeLength = 0;
    private int wrongPlace = NONE;
    private final int[] units = new int[SKILLS];
    private final Edition[] editions = new Edition[MOST_EDITIONS];
    private int editionCount = 0;
    /** Stands for the edition of a day that has none, so that every day has one to ask. */
    private final Edition noRows = new Edition(NONE);
    private Edition latest = noRows;
    private final NeedList noNeeds = new NeedList();
    private NeedList toldNeeds = noNeeds;
    private final Printer printer = new Printer();

    public PlanText() {
    }

    public int sign(long bytes, int n) throws IndexOutOfBoundsException, UnsupportedOperationException {
        if (n < 1 || n > MOST_AT_ONCE) {
            throw new IndexOutOfBoundsException("1 to 8 bytes at once");
        }
        if (tapeLength + n > MOST_BYTES) {
            throw new UnsupportedOperationException("the tape has 400 bytes at most");
        }
        for (int left = n - 1; left >= 0; left--) {
            tape[tapeLength] = (byte) (bytes >>> (8 * left));
            tapeLength++;
        }
        return tapeLength;
    }

    public int read(int day) throws IndexOutOfBoundsException, IllegalStateException, UnsupportedOperationException {
        requireDay(day);
        Reader reader = new Reader(tape, tapeLength);
        Edition edition = reader.readEdition(day);
        tapeLength = 0;
        wrongPlace = reader.wrongAt;
        if (wrongPlace != NONE) {
            throw new IllegalStateException("the text is wrong");
        }
        if (editionCount >= MOST_EDITIONS) {
            throw new UnsupportedOperationException("there are 6 editions");
        }
        editions[editionCount] = edition;
        editionCount++;
        latest = edition;
        return edition.planCount;
    }

    public int place() {
        return wrongPlace;
    }

    public void town(int skill, int n) throws IllegalArgumentException, IndexOutOfBoundsException {
        requireSkill(skill);
        requireWithin(n, 0, MOST_UNITS);
        units[skill] = n;
    }

    public int plan(int kind, int street, int house, int hour, int day)
            throws IllegalArgumentException, IndexOutOfBoundsException {
        if (kind < 1 || kind > LAST_KIND) {
            throw new IllegalArgumentException("no such kind");
        }
        requireWithin(street, 1, LAST_STREET);
        requireWithin(house, 1, LAST_HOUSE);
        requireWithin(hour, 0, LAST_HOUR);
        requireDay(day);
        Edition edition = editionOf(day);
        Plan best = edition.bestPlan(kind, street, house, hour);
        if (best != null) {
            toldNeeds = best.needs;
            return best.number;
        }
        NeedList usual = edition.defaultNeeds(kind);
        toldNeeds = usual != null ? usual : noNeeds;
        return usual != null ? 0 : NONE;
    }

    public int need(int i, int what) throws IllegalArgumentException {
        Need need = toldNeeds.needAt(i);
        if (need == null) {
            throw new IllegalArgumentException("no such need");
        }
        switch (what) {
            case 0:
                return need.units;
            case 1:
                return need.skill;
            case 2:
                return need.firstAlternative;
            case 3:
                return need.secondAlternative;
            case 4:
                return need.limit;
            default:
                throw new IllegalArgumentException("no such what");
        }
    }

    public int standby(int skill, int hour, int calls, int day)
            throws IllegalArgumentException, IndexOutOfBoundsException {
        requireSkill(skill);
        requireWithin(hour, 0, LAST_HOUR);
        requireWithin(calls, 0, MOST_OPEN_CALLS);
        requireDay(day);
        return editionOf(day).standbyUnits(skill, hour, calls);
    }

    public int clash(int day, int i) throws IndexOutOfBoundsException {
        requireDay(day);
        requireIndex(i);
        return editionOf(day).clashingPair(i);
    }

    public int never(int day, int i) throws IndexOutOfBoundsException {
        requireDay(day);
        requireIndex(i);
        return numberAmong(editionOf(day).plansNeverMet(), i);
    }

    public int lacks(int day, int i) throws IndexOutOfBoundsException {
        requireDay(day);
        requireIndex(i);
        return numberAmong(editionOf(day).plansLacking(units), i);
    }

    public int print(int day) throws IndexOutOfBoundsException {
        requireDay(day);
        printer.writeEdition(editionOf(day));
        return printer.length;
    }

    public int at(int i) throws IndexOutOfBoundsException {
        requireIndex(i);
        return printer.byteAt(i);
    }

    public int count(int what) throws IllegalArgumentException {
        switch (what) {
            case 0:
                return editionCount;
            case 1:
                return latest.planCount;
            case 2:
                return latest.defaultCount;
            case 3:
                return latest.standbyCount;
            default:
                throw new IllegalArgumentException("no such what");
        }
    }

    private Edition editionOf(int day) {
        Edition found = noRows;
        for (int i = 0; i < editionCount && i < MOST_EDITIONS; i++) {
            Edition edition = editions[i];
            if (edition != null && edition.day <= day && edition.day >= found.day) {
                found = edition;
            }
        }
        return found;
    }

    /** The i-th plan number of a set that has a bit for each number. */
    private static int numberAmong(long numbers, int i) {
        int left = i;
        for (int number = 1; number <= LAST_PLAN; number++) {
            if ((numbers >> number & 1) != 0) {
                if (left == 0) {
                    return number;
                }
                left--;
            }
        }
        return NONE;
    }

    private static void requireSkill(int skill) {
        if (skill < 0 || skill >= SKILLS) {
            throw new IllegalArgumentException("no such skill");
        }
    }

    private static void requireDay(int day) {
        requireWithin(day, 0, LAST_DAY);
    }

    private static void requireIndex(int i) {
        if (i < 0) {
            throw new IndexOutOfBoundsException("an index below 0");
        }
    }

    private static void requireWithin(int value, int low, int high) {
        if (value < low || value > high) {
            throw new IndexOutOfBoundsException("a number outside its range");
        }
    }

    /** So many units of a skill, or of its alternatives, perhaps within a limit of minutes. */
    private static final class Need {
        final int units;
        final int skill;
        final int firstAlternative;
        final int secondAlternative;
        final int limit;

        Need(int units, int skill, int firstAlternative, int secondAlternative, int limit) {
            this.units = units;
            this.skill = skill;
            this.firstAlternative = firstAlternative;
            this.secondAlternative = secondAlternative;
            this.limit = limit;
        }

        boolean isAbove(int[] townUnits) {
            int there = unitsOf(townUnits, skill)
                    + unitsOf(townUnits, firstAlternative)
                    + unitsOf(townUnits, secondAlternative);
            return units > there;
        }

        /** An alternative that was not told is no index, and adds nothing. */
        private static int unitsOf(int[] townUnits, int skill) {
            return skill >= 0 && skill < townUnits.length ? townUnits[skill] : 0;
        }
    }

    /** The needs of a plan or of a default, as they were told. */
    private static final class NeedList {
        private final Need[] needs = new Need[MOST_NEEDS];
        private int size = 0;

        void add(Need need) {
            if (size < MOST_NEEDS) {
                needs[size] = need;
                size++;
            }
        }

        Need needAt(int i) {
            return i >= 0 && i < size ? needs[i] : null;
        }

        boolean hasOneAbove(int[] townUnits) {
            for (int i = 0; i < size; i++) {
                Need need = needAt(i);
                if (need != null && need.isAbove(townUnits)) {
                    return true;
                }
            }
            return false;
        }
    }

    /** The houses of a street from one to another; all houses of all streets when the street is 0. */
    private static final class Stretch {
        final int street;
        final int from;
        final int to;

        Stretch(int street, int from, int to) {
            this.street = street;
            this.from = from;
            this.to = to;
        }

        boolean isEverywhere() {
            return street == 0;
        }

        boolean covers(int callStreet, int house) {
            return isEverywhere() || (street == callStreet && from <= house && house <= to);
        }

        /** Another stretch of the street goes on behind this one's last house. */
        boolean endsWithin(Stretch other) {
            return street == other.street && other.from <= to && to < other.to;
        }

        boolean meets(Stretch other) {
            return isEverywhere() || other.isEverywhere()
                    || (street == other.street && from <= other.to && other.from <= to);
        }
    }

    /** Hours of the day, a bit for each; all of them when none were told. */
    private static final class Hours {
        final boolean told;
        final int first;
        final int last;
        final int bits;

        Hours(boolean told, int first, int last) {
            this.told = told;
            this.first = first;
            this.last = last;
            this.bits = bitsOf(first, last);
        }

        boolean has(int hour) {
            return hour >= 0 && hour <= LAST_HOUR && (bits >> hour & 1) != 0;
        }

        private static int bitsOf(int first, int last) {
            int bits = 0;
            for (int hour = 0; hour <= LAST_HOUR; hour++) {
                boolean within = first <= last ? first <= hour && hour <= last : first <= hour || hour <= last;
                if (within) {
                    bits |= 1 << hour;
                }
            }
            return bits;
        }
    }

    private static final class Plan {
        final int number;
        final int kind;
        final Stretch stretch;
        final Hours hours;
        final int rank;
        final NeedList needs;

        Plan(int number, int kind, Stretch stretch, Hours hours, int rank, NeedList needs) {
            this.number = number;
            this.kind = kind;
            this.stretch = stretch;
            this.hours = hours;
            this.rank = rank;
            this.needs = needs;
        }

        boolean fits(int callKind, int street, int house, int hour) {
            return kind == callKind && stretch.covers(street, house) && hours.has(hour);
        }

        boolean clashesWith(Plan other) {
            return kind == other.kind && rank == other.rank
                    && (hours.bits & other.hours.bits) != 0 && stretch.meets(other.stretch);
        }

        /** Where both fit a call, this one is chosen. */
        boolean goesAheadOf(Plan other) {
            return kind == other.kind
                    && (rank > other.rank || (rank == other.rank && number < other.number));
        }
    }

    /** Units of a skill to hold back in some hours, from so many open calls on. */
    private static final class Standby {
        final Hours hours;
        final int calls;
        final int units;
        final int skill;

        Standby(Hours hours, int calls, int units, int skill) {
            this.hours = hours;
            this.calls = calls;
            this.units = units;
            this.skill = skill;
        }

        boolean holds(int asked, int hour, int openCalls) {
            return skill == asked && hours.has(hour) && calls <= openCalls;
        }
    }

    /** The rows of a text, in force from a day on. */
    private static final class Edition {
        final int day;
        /** Plans stand at their numbers and defaults at their kinds, so that both are in order. */
        private final Plan[] plans = new Plan[LAST_PLAN + 1];
        private final NeedList[] defaults = new NeedList[LAST_KIND + 1];
        private final Standby[] standbyRows = new Standby[MOST_STANDBY];
        int planCount = 0;
        int defaultCount = 0;
        int standbyCount = 0;

        Edition(int day) {
            this.day = day;
        }

        Plan planNumbered(int number) {
            return number >= 0 && number <= LAST_PLAN ? plans[number] : null;
        }

        NeedList defaultNeeds(int kind) {
            return kind >= 0 && kind <= LAST_KIND ? defaults[kind] : null;
        }

        Standby standbyRow(int i) {
            return i >= 0 && i < standbyCount ? standbyRows[i] : null;
        }

        void addPlan(Plan plan) {
            if (plan.number >= 0 && plan.number <= LAST_PLAN) {
                plans[plan.number] = plan;
                planCount++;
            }
        }

        void addDefault(int kind, NeedList needs) {
            if (kind >= 0 && kind <= LAST_KIND) {
                defaults[kind] = needs;
                defaultCount++;
            }
        }

        boolean hasRoomForStandby() {
            return standbyCount < MOST_STANDBY;
        }

        void addStandby(Standby row) {
            if (hasRoomForStandby()) {
                standbyRows[standbyCount] = row;
                standbyCount++;
            }
        }

        Plan bestPlan(int kind, int street, int house, int hour) {
            Plan best = null;
            for (int number = 1; number <= LAST_PLAN; number++) {
                Plan plan = planNumbered(number);
                if (plan != null && plan.fits(kind, street, house, hour)
                        && (best == null || plan.goesAheadOf(best))) {
                    best = plan;
                }
            }
            return best;
        }

        int standbyUnits(int skill, int hour, int openCalls) {
            int sum = 0;
            for (int i = 0; i < standbyCount; i++) {
                Standby row = standbyRow(i);
                if (row != null && row.holds(skill, hour, openCalls)) {
                    sum += row.units;
                }
            }
            return sum;
        }

        int clashingPair(int i) {
            int left = i;
            for (int low = 1; low <= LAST_PLAN; low++) {
                Plan lower = planNumbered(low);
                for (int high = low + 1; lower != null && high <= LAST_PLAN; high++) {
                    Plan higher = planNumbered(high);
                    if (higher != null && lower.clashesWith(higher)) {
                        if (left == 0) {
                            return 100 * low + high;
                        }
                        left--;
                    }
                }
            }
            return NONE;
        }

        /** A bit for each plan's number, as all sets of plans here. */
        long plansNeverMet() {
            long numbers = 0;
            for (int number = 1; number <= LAST_PLAN; number++) {
                Plan plan = planNumbered(number);
                if (plan != null && isNeverMet(plan)) {
                    numbers |= 1L << number;
                }
            }
            return numbers;
        }

        long plansLacking(int[] townUnits) {
            long numbers = 0;
            for (int number = 1; number <= LAST_PLAN; number++) {
                Plan plan = planNumbered(number);
                if (plan != null && plan.needs.hasOneAbove(townUnits)) {
                    numbers |= 1L << number;
                }
            }
            return numbers;
        }

        /**
         * The lowest house left to a plan at some hour is its first one, or stands right behind the
         * last one of a plan ahead of it: no other houses have to be looked at.
         */
        private boolean isNeverMet(Plan plan) {
            if (hoursLeft(plan, plan.stretch.from) != 0) {
                return false;
            }
            for (int number = 1; number <= LAST_PLAN; number++) {
                Plan other = planNumbered(number);
                if (other != null && other.goesAheadOf(plan) && other.stretch.endsWithin(plan.stretch)
                        && hoursLeft(plan, other.stretch.to + 1) != 0) {
                    return false;
                }
            }
            return true;
        }

        /**
         * The hours at a house of a plan's street that no plan ahead of it takes. A plan without a
         * street is asked at street 0, which no plan tells: with at most 40 plans, some of the 99
         * streets is told by none, and nowhere is more left to it than there.
         */
        private int hoursLeft(Plan plan, int house) {
            int bits = plan.hours.bits;
            for (int number = 1; number <= LAST_PLAN; number++) {
                Plan other = planNumbered(number);
                if (other != null && other.goesAheadOf(plan)
                        && other.stretch.covers(plan.stretch.street, house)) {
                    bits &= ~other.hours.bits;
                }
            }
            return bits;
        }
    }

    /**
     * Reads a text once, from its first byte to the first wrong one. When it is wrong there are no
     * more signs in it: each step that follows ends by itself and answers its lowest number.
     */
    private static final class Reader {
        private static final int END = -1;

        private final byte[] text;
        private final int length;
        private int position = 0;
        int wrongAt = NONE;

        Reader(byte[] text, int length) {
            this.text = text;
            this.length = Math.min(length, text.length);
        }

        Edition readEdition(int day) {
            Edition edition = new Edition(day);
            for (int rows = 0; rows < length && nextSign() != END; rows++) {
                if (takes('p')) {
                    readPlan(edition);
                } else if (takes('d')) {
                    readDefault(edition);
                } else if (edition.hasRoomForStandby() && takes('s')) {
                    readStandby(edition);
                } else {
                    fail(position);
                }
                expect(';');
            }
            return edition;
        }

        private void readPlan(Edition edition) {
            int number = readNumber(1, LAST_PLAN);
            if (edition.planNumbered(number) != null) {
                fail(position - 1);
            }
            expect('k');
            int kind = readNumber(1, LAST_KIND);
            Stretch stretch = takes('@') ? readStretch() : new Stretch(0, 1, LAST_HOUSE);
            Hours hours = takes('[') ? readHours() : new Hours(false, 0, LAST_HOUR);
            expect('r');
            int rank = readNumber(0, LAST_RANK);
            expect(':');
            edition.addPlan(new Plan(number, kind, stretch, hours, rank, readNeeds()));
        }

        private void readDefault(Edition edition) {
            int kind = readNumber(1, LAST_KIND);
            if (edition.defaultNeeds(kind) != null) {
                fail(position - 1);
            }
            expect(':');
            edition.addDefault(kind, readNeeds());
        }

        private void readStandby(Edition edition) {
            expect('[');
            Hours hours = readHours();
            int calls = readNumber(1, LAST_CALLS);
            expect(':');
            int units = readNumber(1, LAST_COUNT);
            edition.addStandby(new Standby(hours, calls, units, readSkill(0)));
        }

        private Stretch readStretch() {
            int street = readNumber(1, LAST_STREET);
            expect('#');
            int from = readNumber(1, LAST_HOUSE);
            expect('-');
            return new Stretch(street, from, readNumber(from, LAST_HOUSE));
        }

        private Hours readHours() {
            int first = readNumber(0, LAST_HOUR);
            expect('-');
            int last = readNumber(0, LAST_HOUR);
            expect(']');
            return new Hours(true, first, last);
        }

        private NeedList readNeeds() {
            NeedList needs = new NeedList();
            needs.add(readNeed());
            for (int told = 1; told < MOST_NEEDS && takes(','); told++) {
                needs.add(readNeed());
            }
            return needs;
        }

        private Need readNeed() {
            int units = readNumber(1, LAST_COUNT);
            int skill = readSkill(0);
            int first = NONE;
            int second = NONE;
            if (takes('/')) {
                first = readSkill(1 << skill);
                if (takes('/')) {
                    second = readSkill(1 << skill | 1 << first);
                }
            }
            int limit = takes('~') ? readNumber(1, LAST_LIMIT) : NONE;
            return new Need(units, skill, first, second, limit);
        }

        /** A skill that is not among those there already, which are told by their bits. */
        private int readSkill(int there) {
            int skill = nextSign() - 'a';
            if (skill < 0 || skill >= SKILLS || (there >> skill & 1) != 0) {
                fail(position);
                return 0;
            }
            position++;
            return skill;
        }

        private int readNumber(int low, int high) {
            int first = nextSign();
            if (!isDigit(first)) {
                fail(position);
                return low;
            }
            if (first == '0' && isDigit(byteAt(position + 1))) {
                fail(low == 0 ? position + 1 : position);
                return low;
            }
            int value = 0;
            for (int digits = 0; digits < MOST_DIGITS && isDigit(byteAt(position)); digits++) {
                value = 10 * value + byteAt(position) - '0';
                position++;
            }
            if (value < low || value > high) {
                fail(position - 1);
                return low;
            }
            if (isDigit(byteAt(position))) {
                fail(position);
            }
            return value;
        }

        private void expect(char sign) {
            if (!takes(sign)) {
                fail(position);
            }
        }

        private boolean takes(char sign) {
            if (nextSign() != sign) {
                return false;
            }
            position++;
            return true;
        }

        private int nextSign() {
            if (wrongAt != NONE) {
                return END;
            }
            while (position < length && text[position] == ' ') {
                position++;
            }
            return position < length ? text[position] & 255 : END;
        }

        private int byteAt(int i) {
            return i >= 0 && i < length ? text[i] & 255 : END;
        }

        private static boolean isDigit(int sign) {
            return sign >= '0' && sign <= '9';
        }

        /** Only the first wrong byte is told: what comes behind it was not read. */
        private void fail(int at) {
            if (wrongAt == NONE) {
                wrongAt = at;
            }
        }
    }

    /** Writes an edition as a text, which is never longer than the one it was read from. */
    private static final class Printer {
        private final byte[] bytes = new byte[MOST_BYTES];
        int length = 0;

        int byteAt(int i) {
            return i >= 0 && i < length ? bytes[i] & 255 : NONE;
        }

        void writeEdition(Edition edition) {
            length = 0;
            for (int number = 1; number <= LAST_PLAN; number++) {
                Plan plan = edition.planNumbered(number);
                if (plan != null) {
                    writePlan(plan);
                }
            }
            for (int kind = 1; kind <= LAST_KIND; kind++) {
                NeedList needs = edition.defaultNeeds(kind);
                if (needs != null) {
                    writeNumber('d', kind);
                    writeNeeds(needs);
                }
            }
            for (int i = 0; i < MOST_STANDBY; i++) {
                Standby row = edition.standbyRow(i);
                if (row != null) {
                    writeStandby(row);
                }
            }
        }

        private void writePlan(Plan plan) {
            writeNumber('p', plan.number);
            writeNumber('k', plan.kind);
            if (!plan.stretch.isEverywhere()) {
                writeNumber('@', plan.stretch.street);
                writeNumber('#', plan.stretch.from);
                writeNumber('-', plan.stretch.to);
            }
            if (plan.hours.told) {
                writeHours(plan.hours);
                write(']');
            }
            writeNumber('r', plan.rank);
            writeNeeds(plan.needs);
        }

        private void writeStandby(Standby row) {
            write('s');
            writeHours(row.hours);
            writeNumber(']', row.calls);
            writeNumber(':', row.units);
            writeSkill(row.skill);
            write(';');
        }

        /** Leaves the bracket open, for the sign ahead of a standby row's calls closes it. */
        private void writeHours(Hours hours) {
            writeNumber('[', hours.first);
            writeNumber('-', hours.last);
        }

        private void writeNeeds(NeedList needs) {
            for (int i = 0; i < MOST_NEEDS; i++) {
                Need need = needs.needAt(i);
                if (need != null) {
                    writeNumber(i == 0 ? ':' : ',', need.units);
                    writeNeed(need);
                }
            }
            write(';');
        }

        private void writeNeed(Need need) {
            writeSkill(need.skill);
            if (need.firstAlternative != NONE) {
                write('/');
                writeSkill(need.firstAlternative);
            }
            if (need.secondAlternative != NONE) {
                write('/');
                writeSkill(need.secondAlternative);
            }
            if (need.limit != NONE) {
                writeNumber('~', need.limit);
            }
        }

        private void writeSkill(int skill) {
            write('a' + skill);
        }

        private void writeNumber(char sign, int number) {
            write(sign);
            if (number >= 100) {
                write('0' + number / 100 % 10);
            }
            if (number >= 10) {
                write('0' + number / 10 % 10);
            }
            write('0' + number % 10);
        }

        private void write(int sign) {
            if (length < MOST_BYTES) {
                bytes[length] = (byte) sign;
                length++;
            }
        }
    }
}
