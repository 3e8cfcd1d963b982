import java.util.NoSuchElementException;

/** A training diary of an athlete. */
public final class TrainingDiary {
    private static final int DAYS = 200;
    private static final int LONGEST_PASS = 30;

    private static final int TEST_LIMIT = 10;
    private static final int LOWEST_THRESHOLD = 50;
    private static final int HIGHEST_THRESHOLD = 400;
    private static final int FIRST_THRESHOLD = 200;

    private static final int ZONES = 5;
    private static final int LOWEST_BOUNDED_ZONE = 2;
    private static final int HIGHEST_BOUND = 300;
    private static final int HIGHEST_WEIGHT = 100;
    private static final int HIGHEST_INTENSITY = 500;

    // The zone is the index in both rows, so that zone 0 (and the bound of zone 1) stays unused.
    private static final int[] FIRST_BOUNDS = {0, 0, 80, 90, 100, 110};
    private static final int[] FIRST_WEIGHTS = {0, 1, 2, 3, 5, 8};

    private static final int SESSION_LIMIT = 40;
    private static final int PART_LIMIT = 8;
    private static final int LONGEST_PART = 120;
    private static final int LONGEST_SESSION = 240;

    private static final int LOAD_SCALE = 1000;
    private static final int FITNESS_SPAN = 42;
    private static final int FATIGUE_SPAN = 7;
    private static final int HIGHEST_WANTED_FORM = 100000;
    private static final int LONGEST_WAIT = 200;

    private static final int LONGEST_ROW_OF_DAYS = 60;

    private static final int ENTRY_LIMIT = 28;
    private static final int HIGHEST_TARGET = 20000;
    private static final int DAYS_OF_AN_ENTRY = 3;

    private static final int WEEK = 7;
    private static final int WEEK_LINE = 2 * WEEK - 1;

    private static final int UNDO_LIMIT = 6;

    private final State state;
    private final History history;
    private final State snapshot;
    private boolean hasSnapshot;
    private final char[] line;
    private int lineLength;
    private final Trend trend;
    private final Course course;

    // Rows that calls fill anew, made once because all calls of a run share one room.
    private final int[] dayLoads;
    private final int[] sessionLoads;
    private final int[] zoneMinutes;
    private final int[] minuteRow;

    public TrainingDiary() {
        state = new State();
        history = new History();
        snapshot = new State();
        hasSnapshot = false;
        line = new char[WEEK_LINE];
        lineLength = 0;
        trend = new Trend();
        course = new Course();
        dayLoads = new int[DAYS];
        sessionLoads = new int[SESSION_LIMIT];
        zoneMinutes = new int[ZONES + 1];
        minuteRow = new int[LONGEST_SESSION + 1];
    }

    // ---- days, tests and zones

    public int pass(int days) throws IllegalArgumentException, IllegalStateException {
        requireRange(days, 1, LONGEST_PASS);
        if (state.today + days >= DAYS) {
            throw new IllegalStateException("the diary ends before that day");
        }
        history.keep(state);
        state.today += days;
        return state.today;
    }

    public int today() {
        return state.today;
    }

    public int addTest(int day, int threshold) throws IllegalArgumentException, IllegalStateException {
        requireDayUpToToday(day);
        requireRange(threshold, LOWEST_THRESHOLD, HIGHEST_THRESHOLD);
        Tests tests = state.tests;
        if (tests.count >= TEST_LIMIT || tests.positionOn(day) >= 0) {
            throw new IllegalStateException("no further test is possible on this day");
        }
        history.keep(state);
        state.fillSessionLoads(sessionLoads);
        tests.append(day, threshold);
        trend.forgetFrom(day);
        return state.countChangedLoads(sessionLoads);
    }

    public int removeTest(int day) throws NoSuchElementException {
        int position = state.tests.positionOn(day);
        if (position < 0) {
            throw new NoSuchElementException("there is no test on this day");
        }
        history.keep(state);
        int threshold = state.tests.thresholds[position];
        state.tests.removeAt(position);
        trend.forgetFrom(day);
        return threshold;
    }

    public int testCount() {
        return state.tests.count;
    }

    public int thresholdOn(int day) throws IllegalArgumentException {
        requireRange(day, 0, DAYS - 1);
        return state.tests.thresholdInForce(day);
    }

    public int setBound(int zone, int percent) throws IllegalArgumentException, IllegalStateException {
        requireRange(zone, LOWEST_BOUNDED_ZONE, ZONES);
        requireRange(percent, 1, HIGHEST_BOUND);
        if (!state.zones.boundsWouldIncrease(zone, percent)) {
            throw new IllegalStateException("the bounds would not increase");
        }
        history.keep(state);
        int previous = state.zones.bounds[zone];
        state.zones.bounds[zone] = percent;
        trend.forgetFrom(0);
        return previous;
    }

    public int boundOf(int zone) throws IllegalArgumentException {
        requireRange(zone, LOWEST_BOUNDED_ZONE, ZONES);
        return state.zones.bounds[zone];
    }

    public int setWeight(int zone, int weight) throws IllegalArgumentException {
        requireZone(zone);
        requireRange(weight, 0, HIGHEST_WEIGHT);
        history.keep(state);
        int previous = state.zones.weights[zone];
        state.zones.weights[zone] = weight;
        trend.forgetFrom(0);
        return previous;
    }

    public int weightOf(int zone) throws IllegalArgumentException {
        requireZone(zone);
        return state.zones.weights[zone];
    }

    public int zoneOf(int day, int intensity) throws IllegalArgumentException {
        requireRange(day, 0, DAYS - 1);
        requireRange(intensity, 0, HIGHEST_INTENSITY);
        return state.zones.zoneFor(intensity, state.tests.thresholdInForce(day));
    }

    // ---- sessions

    public int addSession(int day) throws IllegalArgumentException, IllegalStateException {
        requireDayUpToToday(day);
        if (state.sessions.count >= SESSION_LIMIT) {
            throw new IllegalStateException("no further session is possible");
        }
        history.keep(state);
        return state.sessions.add(day);
    }

    public int addPart(int id, int minutes, int intensity)
            throws NoSuchElementException, IllegalArgumentException, IllegalStateException {
        Session session = existingSession(id);
        requireRange(minutes, 1, LONGEST_PART);
        requireRange(intensity, 0, HIGHEST_INTENSITY);
        if (session.partCount >= PART_LIMIT || session.length() + minutes > LONGEST_SESSION) {
            throw new IllegalStateException("the session has no room for this part");
        }
        history.keep(state);
        session.append(minutes, intensity);
        trend.forgetFrom(session.day);
        return session.partCount;
    }

    public int clearParts(int id) throws NoSuchElementException {
        Session session = existingSession(id);
        history.keep(state);
        int partCount = session.partCount;
        session.partCount = 0;
        trend.forgetFrom(session.day);
        return partCount;
    }

    public int moveSession(int id, int day) throws NoSuchElementException, IllegalArgumentException {
        int position = existingPosition(id);
        requireDayUpToToday(day);
        history.keep(state);
        int previous = state.sessions.moveAt(position, day);
        trend.forgetFrom(Math.min(previous, day));
        return previous;
    }

    public int removeSession(int id) throws NoSuchElementException {
        int position = existingPosition(id);
        history.keep(state);
        int day = state.sessions.removeAt(position);
        trend.forgetFrom(day);
        return state.sessions.count;
    }

    public int sessionCount() {
        return state.sessions.count;
    }

    public int sessionAt(int position) throws IndexOutOfBoundsException {
        if (position < 0 || position >= state.sessions.count) {
            throw new IndexOutOfBoundsException("there is no such position");
        }
        return state.sessions.inOrder[position].id;
    }

    public int dayOf(int id) throws NoSuchElementException {
        return existingSession(id).day;
    }

    public int minutesOf(int id) throws NoSuchElementException {
        return existingSession(id).length();
    }

    public int minutesInZone(int id, int zone) throws NoSuchElementException, IllegalArgumentException {
        Session session = existingSession(id);
        requireZone(zone);
        clear(zoneMinutes);
        state.addZoneMinutes(session, zoneMinutes);
        return zoneMinutes[zone];
    }

    public int loadOf(int id) throws NoSuchElementException {
        return state.sessionLoad(existingSession(id));
    }

    public int loadOn(int day) throws IllegalArgumentException {
        requireDayUpToToday(day);
        state.fillDayLoads(dayLoads);
        return dayLoads[day];
    }

    public float zoneShare(int zone) throws IllegalArgumentException, ArithmeticException {
        requireZone(zone);
        clear(zoneMinutes);
        int allMinutes = 0;
        for (int i = 0; i < state.sessions.count; i++) {
            Session session = state.sessions.inOrder[i];
            state.addZoneMinutes(session, zoneMinutes);
            allMinutes += session.length();
        }
        if (allMinutes == 0) {
            throw new ArithmeticException("there are no minutes");
        }
        return (float) zoneMinutes[zone] / (float) allMinutes;
    }

    public double meanLoad() {
        state.fillDayLoads(dayLoads);
        return (double) sumOfLoads(0, state.today + 1) / (double) (state.today + 1);
    }

    // ---- fitness, fatigue and form

    public int fitnessOn(int day) throws IllegalArgumentException {
        requireDayUpToToday(day);
        learnTrend(day);
        return trend.fitness[day];
    }

    public int fitnessFromStart(int day) throws IllegalArgumentException {
        requireDayUpToToday(day);
        state.fillDayLoads(dayLoads);
        int fitness = 0;
        for (int d = 0; d <= day; d++) {
            fitness = nextFitness(fitness, dayLoads[d]);
        }
        return fitness;
    }

    public int fatigueOn(int day) throws IllegalArgumentException {
        requireDayUpToToday(day);
        learnTrend(day);
        return trend.fatigue[day];
    }

    public int fatigueFromStart(int day) throws IllegalArgumentException {
        requireDayUpToToday(day);
        state.fillDayLoads(dayLoads);
        int fatigue = 0;
        for (int d = 0; d <= day; d++) {
            fatigue = nextFatigue(fatigue, dayLoads[d]);
        }
        return fatigue;
    }

    public int formOn(int day) throws IllegalArgumentException {
        requireDayUpToToday(day);
        learnTrend(day);
        return trend.fitnessBefore(day) - trend.fatigueBefore(day);
    }

    public int bestFormDay() {
        learnTrend(state.today);
        int best = 0;
        int bestDay = 0;
        for (int day = 1; day <= state.today; day++) {
            int form = trend.fitnessBefore(day) - trend.fatigueBefore(day);
            if (form > best) {
                best = form;
                bestDay = day;
            }
        }
        return bestDay;
    }

    public int daysToForm(int form) throws IllegalArgumentException, NoSuchElementException {
        requireRange(form, -HIGHEST_WANTED_FORM, HIGHEST_WANTED_FORM);
        learnTrend(state.today);
        if (trend.fitnessBefore(state.today) - trend.fatigueBefore(state.today) >= form) {
            return 0;
        }
        // The form of tomorrow already counts the sessions of today; only later days are free of load.
        int fitness = trend.fitness[state.today];
        int fatigue = trend.fatigue[state.today];
        for (int days = 1; days <= LONGEST_WAIT; days++) {
            if (fitness - fatigue >= form) {
                return days;
            }
            fitness = nextFitness(fitness, 0);
            fatigue = nextFatigue(fatigue, 0);
        }
        throw new NoSuchElementException("the form is not reached");
    }

    // ---- records

    public int bestDays(int length) throws IllegalArgumentException, NoSuchElementException {
        requireRowOfDays(length);
        int start = startOfBestDays(length);
        return sumOfLoads(start, length);
    }

    public int bestDaysByTrying(int length) throws IllegalArgumentException, NoSuchElementException {
        requireRowOfDays(length);
        state.fillDayLoads(dayLoads);
        int best = 0;
        for (int start = 0; start + length <= state.today + 1; start++) {
            best = Math.max(best, sumOfLoads(start, length));
        }
        return best;
    }

    public int bestDaysStart(int length) throws IllegalArgumentException, NoSuchElementException {
        requireRowOfDays(length);
        return startOfBestDays(length);
    }

    public int bestEffort(int minutes) throws IllegalArgumentException, NoSuchElementException {
        int position = positionOfBestEffort(minutes);
        return effortBySums(state.sessions.inOrder[position], minutes);
    }

    public int bestEffortByTrying(int minutes) throws IllegalArgumentException, NoSuchElementException {
        requireRowOfMinutes(minutes);
        int best = 0;
        for (int i = 0; i < state.sessions.count; i++) {
            best = Math.max(best, effortByTrying(state.sessions.inOrder[i], minutes));
        }
        return best;
    }

    public int bestEffortSession(int minutes) throws IllegalArgumentException, NoSuchElementException {
        int position = positionOfBestEffort(minutes);
        return state.sessions.inOrder[position].id;
    }

    // ---- the plan

    public int startPlan() {
        history.keep(state);
        int earlierEntries = state.plan.entryCount;
        state.plan.start(state.today);
        return earlierEntries;
    }

    public int addTarget(int load) throws IllegalArgumentException, IllegalStateException {
        requireRange(load, 0, HIGHEST_TARGET);
        Plan plan = state.plan;
        if (!plan.exists || plan.firstDay != state.today || plan.entryCount >= ENTRY_LIMIT) {
            throw new IllegalStateException("no further entry is possible today");
        }
        history.keep(state);
        plan.append(load);
        return plan.entryCount;
    }

    public int targetAt(int entry) throws IndexOutOfBoundsException {
        if (entry < 0 || entry >= state.plan.entryCount) {
            throw new IndexOutOfBoundsException("there is no such entry");
        }
        return state.plan.targets[entry];
    }

    public int dueEntry() throws NoSuchElementException {
        return existingDueEntry();
    }

    public int missedDays() {
        followPlan();
        return course.missedDays;
    }

    public int droppedEntries() {
        followPlan();
        return course.droppedEntries;
    }

    public int planEnd() throws NoSuchElementException {
        int entriesAfterDue = state.plan.entryCount - 1 - existingDueEntry();
        return state.today + entriesAfterDue;
    }

    public boolean isPlanOver() {
        followPlan();
        return state.plan.exists && course.dueEntry >= state.plan.entryCount;
    }

    // ---- line, undo and snapshots

    public int writeWeek(int day) throws IllegalArgumentException {
        requireDayUpToToday(day);
        for (int i = 0; i < WEEK; i++) {
            if (i > 0) {
                line[2 * i - 1] = ' ';
            }
            line[2 * i] = signOfDay(day + i);
        }
        lineLength = WEEK_LINE;
        return lineLength;
    }

    public char lineAt(int index) throws IndexOutOfBoundsException {
        if (index < 0 || index >= lineLength) {
            throw new IndexOutOfBoundsException("there is no such character");
        }
        return line[index];
    }

    public int undo() throws IllegalStateException {
        if (history.count == 0) {
            throw new IllegalStateException("nothing can be undone");
        }
        history.takeBack(state);
        trend.forgetFrom(0);
        return history.count;
    }

    public int save() {
        snapshot.copyFrom(state);
        hasSnapshot = true;
        return state.sessions.count;
    }

    public int restore() throws IllegalStateException {
        if (!hasSnapshot) {
            throw new IllegalStateException("there is no snapshot");
        }
        state.copyFrom(snapshot);
        history.forget();
        trend.forgetFrom(0);
        return state.sessions.count;
    }

    // ---- what the calls above share

    private static void requireRange(int value, int lowest, int highest) {
        if (value < lowest || value > highest) {
            throw new IllegalArgumentException("an argument is out of range");
        }
    }

    private static void requireZone(int zone) {
        requireRange(zone, 1, ZONES);
    }

    private void requireDayUpToToday(int day) {
        requireRange(day, 0, state.today);
    }

    private void requireRowOfDays(int length) {
        requireRange(length, 1, LONGEST_ROW_OF_DAYS);
        if (state.today < length - 1) {
            throw new NoSuchElementException("there are not so many days yet");
        }
    }

    private void requireRowOfMinutes(int minutes) {
        requireRange(minutes, 1, LONGEST_SESSION);
        if (!state.sessions.hasLength(minutes)) {
            throw new NoSuchElementException("no session is so long");
        }
    }

    private int existingPosition(int id) {
        int position = state.sessions.positionWithId(id);
        if (position < 0) {
            throw new NoSuchElementException("no session has this id");
        }
        return position;
    }

    private Session existingSession(int id) {
        return state.sessions.inOrder[existingPosition(id)];
    }

    private static void clear(int[] row) {
        for (int i = 0; i < row.length; i++) {
            row[i] = 0;
        }
    }

    // Needs dayLoads filled: a caller that tries many rows fills it only once.
    private int sumOfLoads(int start, int length) {
        int sum = 0;
        for (int day = start; day < start + length; day++) {
            sum += dayLoads[day];
        }
        return sum;
    }

    private static int nextFitness(int fitness, int load) {
        return fitness + (LOAD_SCALE * load - fitness) / FITNESS_SPAN;
    }

    private static int nextFatigue(int fatigue, int load) {
        return fatigue + (LOAD_SCALE * load - fatigue) / FATIGUE_SPAN;
    }

    private void learnTrend(int day) {
        if (day < trend.knownDays) {
            return;
        }
        state.fillDayLoads(dayLoads);
        for (int d = trend.knownDays; d <= day; d++) {
            trend.fitness[d] = nextFitness(trend.fitnessBefore(d), dayLoads[d]);
            trend.fatigue[d] = nextFatigue(trend.fatigueBefore(d), dayLoads[d]);
        }
        trend.knownDays = day + 1;
    }

    private int startOfBestDays(int length) {
        state.fillDayLoads(dayLoads);
        int sum = sumOfLoads(0, length);
        int best = sum;
        int bestStart = 0;
        for (int start = 1; start + length <= state.today + 1; start++) {
            sum += dayLoads[start + length - 1] - dayLoads[start - 1];
            if (sum > best) {
                best = sum;
                bestStart = start;
            }
        }
        return bestStart;
    }

    private int positionOfBestEffort(int minutes) {
        requireRowOfMinutes(minutes);
        // An effort can be 0, so that a session which is too short must rank below it.
        int best = -1;
        int bestPosition = 0;
        for (int i = 0; i < state.sessions.count; i++) {
            int effort = effortBySums(state.sessions.inOrder[i], minutes);
            if (effort > best) {
                best = effort;
                bestPosition = i;
            }
        }
        return bestPosition;
    }

    /** Answers -1 if the session is too short. */
    private int effortBySums(Session session, int minutes) {
        int length = session.fillMinutes(minuteRow);
        int sum = 0;
        for (int i = 0; i <= length; i++) {
            int intensity = minuteRow[i];
            minuteRow[i] = sum;
            sum += intensity;
        }
        int best = -1;
        for (int end = minutes; end <= length; end++) {
            best = Math.max(best, minuteRow[end] - minuteRow[end - minutes]);
        }
        return best;
    }

    /** Answers -1 if the session is too short. */
    private int effortByTrying(Session session, int minutes) {
        int length = session.fillMinutes(minuteRow);
        int best = -1;
        for (int start = 0; start + minutes <= length; start++) {
            int sum = 0;
            for (int i = start; i < start + minutes; i++) {
                sum += minuteRow[i];
            }
            best = Math.max(best, sum);
        }
        return best;
    }

    private void followPlan() {
        state.fillDayLoads(dayLoads);
        course.follow(state.plan, state.today, dayLoads);
    }

    private int existingDueEntry() {
        followPlan();
        if (course.dueEntry >= state.plan.entryCount) {
            throw new NoSuchElementException("no entry is due");
        }
        return course.dueEntry;
    }

    private char signOfDay(int day) {
        if (day > state.today) {
            return '-';
        }
        if (!state.sessions.anyOn(day)) {
            return '.';
        }
        clear(zoneMinutes);
        for (int i = 0; i < state.sessions.count; i++) {
            Session session = state.sessions.inOrder[i];
            if (session.day == day) {
                state.addZoneMinutes(session, zoneMinutes);
            }
        }
        int most = 0;
        for (int zone = 1; zone <= ZONES; zone++) {
            if (zoneMinutes[zone] > zoneMinutes[most]) {
                most = zone;
            }
        }
        return (char) ('0' + most);
    }

    /** The tests, in no order. */
    private static final class Tests {
        final int[] days = new int[TEST_LIMIT];
        final int[] thresholds = new int[TEST_LIMIT];
        int count = 0;

        void copyFrom(Tests other) {
            System.arraycopy(other.days, 0, days, 0, TEST_LIMIT);
            System.arraycopy(other.thresholds, 0, thresholds, 0, TEST_LIMIT);
            count = other.count;
        }

        /** Answers -1 if there is no test on the day. */
        int positionOn(int day) {
            for (int i = 0; i < count; i++) {
                if (days[i] == day) {
                    return i;
                }
            }
            return -1;
        }

        int thresholdInForce(int day) {
            int threshold = FIRST_THRESHOLD;
            int lastDay = -1;
            for (int i = 0; i < count; i++) {
                if (days[i] <= day && days[i] > lastDay) {
                    lastDay = days[i];
                    threshold = thresholds[i];
                }
            }
            return threshold;
        }

        void append(int day, int threshold) {
            days[count] = day;
            thresholds[count] = threshold;
            count++;
        }

        void removeAt(int position) {
            count--;
            days[position] = days[count];
            thresholds[position] = thresholds[count];
        }
    }

    private static final class Zones {
        final int[] bounds = FIRST_BOUNDS.clone();
        final int[] weights = FIRST_WEIGHTS.clone();

        void copyFrom(Zones other) {
            System.arraycopy(other.bounds, 0, bounds, 0, ZONES + 1);
            System.arraycopy(other.weights, 0, weights, 0, ZONES + 1);
        }

        boolean boundsWouldIncrease(int zone, int percent) {
            boolean aboveLower = zone == LOWEST_BOUNDED_ZONE || percent > bounds[zone - 1];
            boolean belowHigher = zone == ZONES || percent < bounds[zone + 1];
            return aboveLower && belowHigher;
        }

        int zoneFor(int intensity, int threshold) {
            for (int zone = ZONES; zone >= LOWEST_BOUNDED_ZONE; zone--) {
                // A whole number is at most the rounded quotient just when it is at most the exact one.
                if (bounds[zone] * threshold <= 100 * intensity) {
                    return zone;
                }
            }
            return 1;
        }
    }

    private static final class Session {
        int id = 0;
        int day = 0;
        int partCount = 0;
        final int[] minutes = new int[PART_LIMIT];
        final int[] intensities = new int[PART_LIMIT];

        void copyFrom(Session other) {
            id = other.id;
            day = other.day;
            partCount = other.partCount;
            System.arraycopy(other.minutes, 0, minutes, 0, other.partCount);
            System.arraycopy(other.intensities, 0, intensities, 0, other.partCount);
        }

        boolean comesBefore(Session other) {
            return day < other.day || (day == other.day && id < other.id);
        }

        void append(int partMinutes, int intensity) {
            minutes[partCount] = partMinutes;
            intensities[partCount] = intensity;
            partCount++;
        }

        int length() {
            int sum = 0;
            for (int p = 0; p < partCount; p++) {
                sum += minutes[p];
            }
            return sum;
        }

        /** Puts the intensity of each minute into a row that is longer than any session; answers the length. */
        int fillMinutes(int[] row) {
            int length = 0;
            for (int p = 0; p < partCount; p++) {
                int end = length + minutes[p];
                for (int i = length; i < end; i++) {
                    row[i] = intensities[p];
                }
                length = end;
            }
            return length;
        }
    }

    /** The sessions; those behind the count are spare ones, kept to be used again. */
    private static final class Sessions {
        final Session[] inOrder = new Session[SESSION_LIMIT];
        int count = 0;
        int nextId = 0;

        Sessions() {
            for (int i = 0; i < SESSION_LIMIT; i++) {
                inOrder[i] = new Session();
            }
        }

        void copyFrom(Sessions other) {
            for (int i = 0; i < other.count; i++) {
                inOrder[i].copyFrom(other.inOrder[i]);
            }
            count = other.count;
            nextId = other.nextId;
        }

        /** Answers -1 if no session has the id. */
        int positionWithId(int id) {
            for (int i = 0; i < count; i++) {
                if (inOrder[i].id == id) {
                    return i;
                }
            }
            return -1;
        }

        boolean anyOn(int day) {
            for (int i = 0; i < count; i++) {
                if (inOrder[i].day == day) {
                    return true;
                }
            }
            return false;
        }

        boolean hasLength(int minutes) {
            for (int i = 0; i < count; i++) {
                if (inOrder[i].length() >= minutes) {
                    return true;
                }
            }
            return false;
        }

        int add(int day) {
            Session session = inOrder[count];
            session.id = nextId;
            session.day = day;
            session.partCount = 0;
            count++;
            nextId++;
            settle(count - 1);
            return session.id;
        }

        /** Answers the day before the move. */
        int moveAt(int position, int day) {
            int previous = inOrder[position].day;
            inOrder[position].day = day;
            settle(position);
            return previous;
        }

        /** Answers the day of the removed session. */
        int removeAt(int position) {
            Session session = inOrder[position];
            for (int i = position; i < count - 1; i++) {
                inOrder[i] = inOrder[i + 1];
            }
            count--;
            inOrder[count] = session;
            return session.day;
        }

        private void settle(int position) {
            Session session = inOrder[position];
            int place = position;
            while (place > 0 && session.comesBefore(inOrder[place - 1])) {
                inOrder[place] = inOrder[place - 1];
                place--;
            }
            while (place < count - 1 && inOrder[place + 1].comesBefore(session)) {
                inOrder[place] = inOrder[place + 1];
                place++;
            }
            inOrder[place] = session;
        }
    }

    private static final class Plan {
        boolean exists = false;
        int firstDay = 0;
        int entryCount = 0;
        final int[] targets = new int[ENTRY_LIMIT];

        void copyFrom(Plan other) {
            exists = other.exists;
            firstDay = other.firstDay;
            entryCount = other.entryCount;
            System.arraycopy(other.targets, 0, targets, 0, other.entryCount);
        }

        void start(int day) {
            exists = true;
            firstDay = day;
            entryCount = 0;
        }

        void append(int target) {
            targets[entryCount] = target;
            entryCount++;
        }
    }

    /** How a plan went from its first day to the day before today. */
    private static final class Course {
        int dueEntry = 0;
        int missedDays = 0;
        int droppedEntries = 0;

        void follow(Plan plan, int today, int[] loads) {
            dueEntry = 0;
            missedDays = 0;
            droppedEntries = 0;
            int missesOfEntry = 0;
            for (int day = plan.firstDay; day < today && dueEntry < plan.entryCount; day++) {
                boolean missed = 2 * loads[day] < plan.targets[dueEntry];
                if (missed) {
                    missedDays++;
                    missesOfEntry++;
                }
                boolean dropped = missesOfEntry == DAYS_OF_AN_ENTRY;
                if (dropped) {
                    droppedEntries++;
                }
                if (dropped || !missed) {
                    dueEntry++;
                    missesOfEntry = 0;
                }
            }
        }
    }

    /** All that undo and restore bring back. */
    private static final class State {
        int today = 0;
        final Tests tests = new Tests();
        final Zones zones = new Zones();
        final Sessions sessions = new Sessions();
        final Plan plan = new Plan();

        void copyFrom(State other) {
            today = other.today;
            tests.copyFrom(other.tests);
            zones.copyFrom(other.zones);
            sessions.copyFrom(other.sessions);
            plan.copyFrom(other.plan);
        }

        void addZoneMinutes(Session session, int[] minutesByZone) {
            int threshold = tests.thresholdInForce(session.day);
            for (int p = 0; p < session.partCount; p++) {
                minutesByZone[zones.zoneFor(session.intensities[p], threshold)] += session.minutes[p];
            }
        }

        int sessionLoad(Session session) {
            int threshold = tests.thresholdInForce(session.day);
            int load = 0;
            for (int p = 0; p < session.partCount; p++) {
                int zone = zones.zoneFor(session.intensities[p], threshold);
                load += session.minutes[p] * zones.weights[zone];
            }
            return load;
        }

        void fillSessionLoads(int[] loads) {
            for (int i = 0; i < sessions.count; i++) {
                loads[i] = sessionLoad(sessions.inOrder[i]);
            }
        }

        int countChangedLoads(int[] earlierLoads) {
            int changed = 0;
            for (int i = 0; i < sessions.count; i++) {
                if (sessionLoad(sessions.inOrder[i]) != earlierLoads[i]) {
                    changed++;
                }
            }
            return changed;
        }

        void fillDayLoads(int[] loads) {
            clear(loads);
            for (int i = 0; i < sessions.count; i++) {
                Session session = sessions.inOrder[i];
                loads[session.day] += sessionLoad(session);
            }
        }
    }

    /** The states before the last modifications: a ring, in which a new one replaces the oldest. */
    private static final class History {
        final State[] states = new State[UNDO_LIMIT];
        int next = 0;
        int count = 0;

        History() {
            for (int i = 0; i < UNDO_LIMIT; i++) {
                states[i] = new State();
            }
        }

        void keep(State state) {
            states[next].copyFrom(state);
            next = (next + 1) % UNDO_LIMIT;
            count = Math.min(count + 1, UNDO_LIMIT);
        }

        void takeBack(State state) {
            next = (next + UNDO_LIMIT - 1) % UNDO_LIMIT;
            count--;
            state.copyFrom(states[next]);
        }

        void forget() {
            count = 0;
        }
    }

    /** Fitness and fatigue at the ends of the days for which they are still known. */
    private static final class Trend {
        final int[] fitness = new int[DAYS];
        final int[] fatigue = new int[DAYS];
        int knownDays = 0;

        void forgetFrom(int day) {
            knownDays = Math.min(knownDays, day);
        }

        int fitnessBefore(int day) {
            return day == 0 ? 0 : fitness[day - 1];
        }

        int fatigueBefore(int day) {
            return day == 0 ? 0 : fatigue[day - 1];
        }
    }
}
