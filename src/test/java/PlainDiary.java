import java.util.ArrayList;
import java.util.Comparator;
import java.util.List;
import java.util.NoSuchElementException;
import java.util.TreeMap;

/** The document once more, as slowly and plainly as can be: it keeps no sums, and copies all at each modification. */
final class PlainDiary {
    private static final class Training {
        final int id;
        final int day;
        final List<int[]> parts;

        Training(int id, int day, List<int[]> parts) {
            this.id = id;
            this.day = day;
            this.parts = parts;
        }

        List<Integer> eachMinute() {
            List<Integer> minutes = new ArrayList<>();
            for (int[] part : parts) {
                for (int i = 0; i < part[0]; i++) {
                    minutes.add(part[1]);
                }
            }
            return minutes;
        }
    }

    private static final class All {
        int today = 0;
        int nextId = 0;
        TreeMap<Integer, Integer> tests = new TreeMap<>();
        TreeMap<Integer, Integer> bounds = new TreeMap<>();
        TreeMap<Integer, Integer> weights = new TreeMap<>();
        TreeMap<Integer, Training> trainings = new TreeMap<>();
        List<Integer> targets = null;
        int firstDay = 0;

        All copy() {
            All copy = new All();
            copy.today = today;
            copy.nextId = nextId;
            copy.tests = new TreeMap<>(tests);
            copy.bounds = new TreeMap<>(bounds);
            copy.weights = new TreeMap<>(weights);
            copy.trainings = new TreeMap<>(trainings);
            copy.targets = targets == null ? null : new ArrayList<>(targets);
            copy.firstDay = firstDay;
            return copy;
        }
    }

    private All all = new All();
    private All snapshot = null;
    private final List<All> earlier = new ArrayList<>();
    private String line = "";

    PlainDiary() {
        int[] bounds = {80, 90, 100, 110};
        int[] weights = {1, 2, 3, 5, 8};
        for (int i = 0; i < bounds.length; i++) {
            all.bounds.put(i + 2, bounds[i]);
        }
        for (int i = 0; i < weights.length; i++) {
            all.weights.put(i + 1, weights[i]);
        }
    }

    private void modify() {
        earlier.add(all.copy());
        if (earlier.size() > 6) {
            earlier.remove(0);
        }
    }

    private static void range(int value, int from, int to) {
        if (value < from || value > to) {
            throw new IllegalArgumentException();
        }
    }

    private static void possible(boolean is) {
        if (!is) {
            throw new IllegalStateException();
        }
    }

    private static void there(boolean is) {
        if (!is) {
            throw new NoSuchElementException();
        }
    }

    private static void index(boolean is) {
        if (!is) {
            throw new IndexOutOfBoundsException();
        }
    }

    private int threshold(int day) {
        var test = all.tests.floorEntry(day);
        return test == null ? 200 : test.getValue();
    }

    private int zone(int day, int intensity) {
        int percentage = 100 * intensity / threshold(day);
        int zone = 1;
        for (int z = 2; z <= 5; z++) {
            if (all.bounds.get(z) <= percentage) {
                zone = z;
            }
        }
        return zone;
    }

    private int minutes(Training t, int zone) {
        int sum = 0;
        for (int intensity : t.eachMinute()) {
            sum += zone(t.day, intensity) == zone ? 1 : 0;
        }
        return sum;
    }

    private int load(Training t) {
        int sum = 0;
        for (int zone = 1; zone <= 5; zone++) {
            sum += minutes(t, zone) * all.weights.get(zone);
        }
        return sum;
    }

    private int[] loads() {
        int[] loads = new int[200];
        for (Training t : all.trainings.values()) {
            loads[t.day] += load(t);
        }
        return loads;
    }

    private Training training(int id) {
        there(all.trainings.containsKey(id));
        return all.trainings.get(id);
    }

    private List<Training> inOrder() {
        List<Training> order = new ArrayList<>(all.trainings.values());
        order.sort(Comparator.comparingInt((Training t) -> t.day).thenComparingInt(t -> t.id));
        return order;
    }

    int pass(int days) {
        range(days, 1, 30);
        possible(all.today + days <= 199);
        modify();
        return all.today += days;
    }

    int today() {
        return all.today;
    }

    int addTest(int day, int threshold) {
        range(day, 0, all.today);
        range(threshold, 50, 400);
        possible(all.tests.size() < 10 && !all.tests.containsKey(day));
        modify();
        TreeMap<Integer, Integer> before = new TreeMap<>();
        all.trainings.values().forEach(t -> before.put(t.id, load(t)));
        all.tests.put(day, threshold);
        return (int) all.trainings.values().stream().filter(t -> load(t) != before.get(t.id)).count();
    }

    int removeTest(int day) {
        there(all.tests.containsKey(day));
        modify();
        return all.tests.remove(day);
    }

    int testCount() {
        return all.tests.size();
    }

    int thresholdOn(int day) {
        range(day, 0, 199);
        return threshold(day);
    }

    int setBound(int zone, int percent) {
        range(zone, 2, 5);
        range(percent, 1, 300);
        TreeMap<Integer, Integer> bounds = new TreeMap<>(all.bounds);
        bounds.put(zone, percent);
        for (int z = 3; z <= 5; z++) {
            possible(bounds.get(z) > bounds.get(z - 1));
        }
        modify();
        return all.bounds.put(zone, percent);
    }

    int boundOf(int zone) {
        range(zone, 2, 5);
        return all.bounds.get(zone);
    }

    int setWeight(int zone, int weight) {
        range(zone, 1, 5);
        range(weight, 0, 100);
        modify();
        return all.weights.put(zone, weight);
    }

    int weightOf(int zone) {
        range(zone, 1, 5);
        return all.weights.get(zone);
    }

    int zoneOf(int day, int intensity) {
        range(day, 0, 199);
        range(intensity, 0, 500);
        return zone(day, intensity);
    }

    int addSession(int day) {
        range(day, 0, all.today);
        possible(all.trainings.size() < 40);
        modify();
        all.trainings.put(all.nextId, new Training(all.nextId, day, List.of()));
        return all.nextId++;
    }

    int addPart(int id, int minutes, int intensity) {
        Training t = training(id);
        range(minutes, 1, 120);
        range(intensity, 0, 500);
        possible(t.parts.size() < 8 && t.eachMinute().size() + minutes <= 240);
        modify();
        List<int[]> parts = new ArrayList<>(t.parts);
        parts.add(new int[] {minutes, intensity});
        all.trainings.put(id, new Training(id, t.day, parts));
        return parts.size();
    }

    int clearParts(int id) {
        Training t = training(id);
        modify();
        all.trainings.put(id, new Training(id, t.day, List.of()));
        return t.parts.size();
    }

    int moveSession(int id, int day) {
        Training t = training(id);
        range(day, 0, all.today);
        modify();
        all.trainings.put(id, new Training(id, day, t.parts));
        return t.day;
    }

    int removeSession(int id) {
        training(id);
        modify();
        all.trainings.remove(id);
        return all.trainings.size();
    }

    int sessionCount() {
        return all.trainings.size();
    }

    int sessionAt(int position) {
        index(position >= 0 && position < all.trainings.size());
        return inOrder().get(position).id;
    }

    int dayOf(int id) {
        return training(id).day;
    }

    int minutesOf(int id) {
        return training(id).eachMinute().size();
    }

    int minutesInZone(int id, int zone) {
        Training t = training(id);
        range(zone, 1, 5);
        return minutes(t, zone);
    }

    int loadOf(int id) {
        return load(training(id));
    }

    int loadOn(int day) {
        range(day, 0, all.today);
        return loads()[day];
    }

    float zoneShare(int zone) {
        range(zone, 1, 5);
        int inZone = 0;
        int inAll = 0;
        for (Training t : all.trainings.values()) {
            inZone += minutes(t, zone);
            inAll += t.eachMinute().size();
        }
        if (inAll == 0) {
            throw new ArithmeticException();
        }
        return (float) inZone / (float) inAll;
    }

    double meanLoad() {
        int sum = 0;
        for (int load : loads()) {
            sum += load;
        }
        return (double) sum / (double) (all.today + 1);
    }

    private long decayingSum(int[] loads, int lastDay, int span) {
        long sum = 0;
        for (int day = 0; day <= lastDay; day++) {
            long load = day < loads.length ? loads[day] : 0;
            sum += (1000 * load - sum) / span;
        }
        return sum;
    }

    private long form(int[] loads, int day) {
        return decayingSum(loads, day - 1, 42) - decayingSum(loads, day - 1, 7);
    }

    int fitnessOn(int day) {
        range(day, 0, all.today);
        return (int) decayingSum(loads(), day, 42);
    }

    int fitnessFromStart(int day) {
        return fitnessOn(day);
    }

    int fatigueOn(int day) {
        range(day, 0, all.today);
        return (int) decayingSum(loads(), day, 7);
    }

    int fatigueFromStart(int day) {
        return fatigueOn(day);
    }

    int formOn(int day) {
        range(day, 0, all.today);
        return (int) form(loads(), day);
    }

    int bestFormDay() {
        int[] loads = loads();
        int best = 0;
        for (int day = 0; day <= all.today; day++) {
            best = form(loads, day) > form(loads, best) ? day : best;
        }
        return best;
    }

    int daysToForm(int form) {
        range(form, -100000, 100000);
        int[] loads = loads();
        for (int days = 0; days <= 200; days++) {
            if (form(loads, all.today + days) >= form) {
                return days;
            }
        }
        throw new NoSuchElementException();
    }

    private int[] bestRowOfDays(int length) {
        range(length, 1, 60);
        there(all.today >= length - 1);
        int[] loads = loads();
        int[] best = {-1, -1};
        for (int start = 0; start + length - 1 <= all.today; start++) {
            int sum = 0;
            for (int i = 0; i < length; i++) {
                sum += loads[start + i];
            }
            best = sum > best[0] ? new int[] {sum, start} : best;
        }
        return best;
    }

    int bestDays(int length) {
        return bestRowOfDays(length)[0];
    }

    int bestDaysByTrying(int length) {
        return bestRowOfDays(length)[0];
    }

    int bestDaysStart(int length) {
        return bestRowOfDays(length)[1];
    }

    private int[] bestRowOfMinutes(int minutes) {
        range(minutes, 1, 240);
        int[] best = {-1, -1};
        for (Training t : inOrder()) {
            List<Integer> row = t.eachMinute();
            for (int start = 0; start + minutes <= row.size(); start++) {
                int sum = 0;
                for (int intensity : row.subList(start, start + minutes)) {
                    sum += intensity;
                }
                best = sum > best[0] ? new int[] {sum, t.id} : best;
            }
        }
        there(best[1] >= 0);
        return best;
    }

    int bestEffort(int minutes) {
        return bestRowOfMinutes(minutes)[0];
    }

    int bestEffortByTrying(int minutes) {
        return bestRowOfMinutes(minutes)[0];
    }

    int bestEffortSession(int minutes) {
        return bestRowOfMinutes(minutes)[1];
    }

    int startPlan() {
        modify();
        int earlierEntries = all.targets == null ? 0 : all.targets.size();
        all.targets = new ArrayList<>();
        all.firstDay = all.today;
        return earlierEntries;
    }

    int addTarget(int load) {
        range(load, 0, 20000);
        possible(all.targets != null && all.firstDay == all.today && all.targets.size() < 28);
        modify();
        all.targets.add(load);
        return all.targets.size();
    }

    int targetAt(int entry) {
        index(all.targets != null && entry >= 0 && entry < all.targets.size());
        return all.targets.get(entry);
    }

    /** The entry that is due, the days missed of it and of all, and the entries dropped. */
    private int[] course() {
        int due = 0;
        int missedOfDue = 0;
        int missed = 0;
        int dropped = 0;
        int[] loads = loads();
        for (int day = all.firstDay; all.targets != null && day < all.today; day++) {
            if (due == all.targets.size()) {
                break;
            }
            if (2 * loads[day] >= all.targets.get(due)) {
                due++;
                missedOfDue = 0;
                continue;
            }
            missed++;
            missedOfDue++;
            if (missedOfDue == 3) {
                dropped++;
                due++;
                missedOfDue = 0;
            }
        }
        return new int[] {due, missed, dropped};
    }

    int dueEntry() {
        there(all.targets != null && course()[0] < all.targets.size());
        return course()[0];
    }

    int missedDays() {
        return course()[1];
    }

    int droppedEntries() {
        return course()[2];
    }

    int planEnd() {
        int day = all.today;
        for (int entry = dueEntry(); entry < all.targets.size() - 1; entry++) {
            day++;
        }
        return day;
    }

    boolean isPlanOver() {
        return all.targets != null && course()[0] == all.targets.size();
    }

    int writeWeek(int day) {
        range(day, 0, all.today);
        List<String> signs = new ArrayList<>();
        for (int d = day; d < day + 7; d++) {
            signs.add(sign(d));
        }
        line = String.join(" ", signs);
        return line.length();
    }

    private String sign(int day) {
        if (day > all.today) {
            return "-";
        }
        int[] minutes = new int[6];
        boolean any = false;
        for (Training t : all.trainings.values()) {
            any = any || t.day == day;
            for (int zone = 1; zone <= 5 && t.day == day; zone++) {
                minutes[zone] += minutes(t, zone);
            }
        }
        int best = 0;
        for (int zone = 5; zone >= 1; zone--) {
            best = minutes[zone] > 0 && minutes[zone] >= minutes[best] ? zone : best;
        }
        return any ? String.valueOf(best) : ".";
    }

    char lineAt(int position) {
        index(position >= 0 && position < line.length());
        return line.charAt(position);
    }

    int undo() {
        possible(!earlier.isEmpty());
        all = earlier.remove(earlier.size() - 1);
        return earlier.size();
    }

    int save() {
        snapshot = all.copy();
        return all.trainings.size();
    }

    int restore() {
        possible(snapshot != null);
        all = snapshot.copy();
        earlier.clear();
        return all.trainings.size();
    }
}
