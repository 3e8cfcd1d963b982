import java.util.function.Supplier;

/** The rules that all promises share: each sentence of the terms. */
final class TermEdges extends Edges {
    TermEdges(Sentences sentences, Checks checks) {
        super(sentences, checks);
    }

    @Override
    void test() {
        manyCalls();
        days();
        testsAndThresholds();
        zones();
        boundsAndWeights();
        sessions();
        partsOfSessions();
        loads();
        fitnessAndFatigue();
        form();
        records();
        planOfEntries();
        planDays();
        planEnds();
        planChanges();
        modifications();
        lastSix();
        lineAndSnapshot();
        refusedCalls();
        firstException();
    }

    private static TrainingDiary withTest(int day, int threshold) {
        TrainingDiary d = Diaries.on(day);
        d.addTest(day, threshold);
        return d;
    }

    private static TrainingDiary withSession(int today, int day, int... minutesAndIntensities) {
        TrainingDiary d = Diaries.on(today);
        Diaries.session(d, day, minutesAndIntensities);
        return d;
    }

    private void manyCalls() {
        terms("What it is");
        sentence("An object is used for at most 512 calls after it has been made", () -> {
            TrainingDiary d = new TrainingDiary();
            for (int i = 0; i < 256; i++) {
                int id = i;
                due("session " + id, id, () -> d.addSession(0));
                due("sessions left", 0, () -> d.removeSession(id));
            }
            TrainingDiary undone = new TrainingDiary();
            for (int i = 0; i < 256; i++) {
                due("session", 0, () -> undone.addSession(0));
                due("undo", 0, undone::undo);
            }
        });
    }

    private void days() {
        terms("Days");
        sentence("Days are numbered from 0 to 199; today is 0 at first.", () -> {
            due("first", 0, () -> new TrainingDiary().today());
            due("last", 199, () -> Diaries.on(199).today());
            due("behind the last", STATE, () -> Diaries.on(199).pass(1));
            dueWith(TrainingDiary::new, TrainingDiary::thresholdOn, -1, RANGE, 0, 200, 199, 200, 200, RANGE);
        });
        sentence("Sessions and tests lie on days up to today.", () -> {
            for (int i : new int[] {0, 1, 100, 199}) {
                int today = i;
                dueWith(() -> Diaries.on(today), TrainingDiary::addSession, today, 0, today + 1, RANGE);
                dueWith(() -> Diaries.on(today), (d, day) -> d.addTest(day, 100), today, 0, today + 1, RANGE);
                dueWith(() -> withSession(today, 0), (d, day) -> d.moveSession(0, day), today, 0, today + 1, RANGE);
            }
            TrainingDiary d = Diaries.on(3);
            d.undo();
            due("today is undone", RANGE, () -> d.addSession(1));
        });
    }

    private void testsAndThresholds() {
        terms("Thresholds and zones");
        sentence("There are at most 10 tests, at most one on each day; a test has a threshold.", () -> {
            TrainingDiary d = Diaries.on(10);
            for (int i = 0; i < 10; i++) {
                int day = i;
                due("test " + day, 0, () -> d.addTest(day, 100 + day));
                due("a second one on " + day, STATE, () -> d.addTest(day, 100));
            }
            due("11th", STATE, () -> d.addTest(10, 100));
            due("tests", 10, d::testCount);
            dueWith(() -> d, TrainingDiary::thresholdOn, 0, 100, 9, 109, 10, 109);
        });
        sentence("The threshold that is in force on a day is that of the last test on or before this day; if there is none, it is 200.", () -> {
            TrainingDiary d = Diaries.on(20);
            dueWith(() -> d, TrainingDiary::thresholdOn, 0, 200, 20, 200, 199, 200);
            d.addTest(15, 150);
            d.addTest(5, 250);
            d.addTest(6, 350);
            dueWith(() -> d, TrainingDiary::thresholdOn, 0, 200, 4, 200, 5, 250, 6, 350, 7, 350, 14, 350, 15, 150, 16, 150, 199, 150);
            d.removeTest(6);
            dueWith(() -> d, TrainingDiary::thresholdOn, 4, 200, 5, 250, 6, 250, 14, 250, 15, 150);
            d.removeTest(15);
            d.removeTest(5);
            dueWith(() -> d, TrainingDiary::thresholdOn, 0, 200, 5, 200, 15, 200, 199, 200);
        });
        sentence("The percentage of an intensity on a day is 100 times the intensity, divided by the threshold in force on the day, rounded down.", () -> {
            zonesOf(333, 266, 1, 267, 2, 299, 2, 300, 3, 332, 3, 333, 4, 366, 4, 367, 5);
            zonesOf(399, 319, 1, 320, 2, 359, 2, 360, 3, 398, 3, 399, 4, 438, 4, 439, 5);
            zonesOf(51, 40, 1, 41, 2, 45, 2, 46, 3, 50, 3, 51, 4, 56, 4, 57, 5, 500, 5);
            due("the first of all thresholds and intensities that is wrong", "none", TermEdges::firstWrongZone);
        });
    }

    private void zonesOf(int threshold, Object... intensitiesAndZones) {
        dueWith(() -> withTest(0, threshold), (d, intensity) -> d.zoneOf(0, intensity), intensitiesAndZones);
    }

    private static String firstWrongZone() {
        for (int threshold = 50; threshold <= 400; threshold++) {
            TrainingDiary d = withTest(0, threshold);
            for (int intensity = 0; intensity <= 500; intensity++) {
                int percentage = 100 * intensity / threshold;
                int zone = percentage < 80 ? 1 : percentage < 90 ? 2 : percentage < 100 ? 3 : percentage < 110 ? 4 : 5;
                if (d.zoneOf(0, intensity) != zone) {
                    return intensity + " of " + threshold;
                }
            }
        }
        return "none";
    }

    private void zones() {
        terms("Thresholds and zones");
        sentence("There are five zones.", () -> {
            dueWith(TrainingDiary::new, TrainingDiary::weightOf, 0, RANGE, 1, 1, 5, 8, 6, RANGE);
            dueWith(TrainingDiary::new, (d, intensity) -> d.zoneOf(0, intensity), 0, 1, 500, 5);
        });
        sentence("The zone of an intensity on a day is the highest zone whose lower bound is not greater than the percentage, or 1 if there is none.", () -> {
            zonesOf(100, 79, 1, 80, 2, 89, 2, 90, 3, 99, 3, 100, 4, 109, 4, 110, 5);
            TrainingDiary low = new TrainingDiary();
            for (int zone = 2; zone <= 5; zone++) {
                low.setBound(zone, zone - 1);
            }
            dueWith(() -> low, (d, intensity) -> d.zoneOf(0, intensity), 0, 1, 1, 1, 2, 2, 3, 2, 4, 3, 6, 4, 7, 4, 8, 5, 500, 5);
            TrainingDiary high = withTest(0, 100);
            for (int zone = 5; zone >= 2; zone--) {
                high.setBound(zone, 295 + zone);
            }
            dueWith(() -> high, (d, intensity) -> d.zoneOf(0, intensity), 296, 1, 297, 2, 298, 3, 299, 4, 300, 5, 500, 5);
        });
    }

    private void boundsAndWeights() {
        terms("Thresholds and zones");
        sentence("The zones 2 to 5 have lower bounds in percent, which are 80, 90, 100 and 110 at first.", () ->
                dueWith(TrainingDiary::new, TrainingDiary::boundOf, 1, RANGE, 2, 80, 3, 90, 4, 100, 5, 110, 6, RANGE));
        sentence("Each zone has a weight; at first, the weights of the zones 1 to 5 are 1, 2, 3, 5 and 8.", () -> {
            dueWith(TrainingDiary::new, TrainingDiary::weightOf, 0, RANGE, 1, 1, 2, 2, 3, 3, 4, 5, 5, 8, 6, RANGE);
            TrainingDiary d = new TrainingDiary();
            d.setBound(2, 1);
            d.setWeight(1, 50);
            due("another object: bound", 80, () -> new TrainingDiary().boundOf(2));
            due("another object: weight", 1, () -> new TrainingDiary().weightOf(1));
        });
    }

    private void sessions() {
        terms("Sessions");
        sentence("At most 40 sessions exist.", () -> {
            TrainingDiary d = new TrainingDiary();
            for (int i = 0; i < 40; i++) {
                int id = i;
                due("session " + id, id, () -> d.addSession(0));
            }
            due("41st", STATE, () -> d.addSession(0));
            due("sessions", 40, d::sessionCount);
            due("last position", 39, () -> d.sessionAt(39));
            d.undo();
            due("after undo", 39, () -> d.addSession(0));
        });
        sentence("The first session has the id 0, and every further one has the id of the session before it plus 1; ids are not used again.", () -> {
            TrainingDiary d = new TrainingDiary();
            due("first", 0, () -> d.addSession(0));
            due("second", 1, () -> d.addSession(0));
            due("refused", RANGE, () -> d.addSession(1));
            due("after a refused call", 2, () -> d.addSession(0));
            d.removeSession(2);
            due("after the last was removed", 3, () -> d.addSession(0));
            d.removeSession(0);
            d.removeSession(1);
            d.removeSession(3);
            due("after all were removed", 4, () -> d.addSession(0));
            dueWith(() -> d, TrainingDiary::dayOf, 0, THERE, 3, THERE, 4, 0, 5, THERE);
        });
        sentence("Several sessions can lie on one day.", () -> {
            TrainingDiary d = new TrainingDiary();
            for (int i = 0; i < 40; i++) {
                Diaries.session(d, 0, 1, 0);
            }
            due("load of all", 40, () -> d.loadOn(0));
        });
    }

    private void partsOfSessions() {
        terms("Sessions");
        sentence("A session lies on a day and has at most 8 parts, in the order in which they were added; it is at most 240 minutes long.", () -> {
            TrainingDiary d = withSession(0, 0, 1, 1, 1, 9, 1, 2, 1, 8, 1, 3, 1, 7, 1, 4);
            due("8th part", 8, () -> d.addPart(0, 1, 6));
            due("9th part", STATE, () -> d.addPart(0, 1, 5));
            // 9 and 7 with what is between them, and no two of 9, 8, 7 side by side: it tells their order.
            dueWith(() -> d, TrainingDiary::bestEffort, 1, 9, 2, 11, 3, 19, 4, 22, 5, 29, 6, 33, 7, 39, 8, 40);
            due("240 minutes", 2, () -> withSession(0, 0, 120, 1).addPart(0, 120, 1));
            due("241 minutes", STATE, () -> withSession(0, 0, 120, 1, 119, 1).addPart(0, 2, 1));
        });
        sentence("The minutes of a part are in the zone of its intensity on the day of the session.", () -> {
            TrainingDiary d = Diaries.on(3);
            d.addTest(2, 400);
            Diaries.session(d, 1, 7, 200);
            due("the day before the test", 7, () -> d.minutesInZone(0, 4));
            d.moveSession(0, 2);
            due("the day of the test", 7, () -> d.minutesInZone(0, 1));
            due("none in the zone before", 0, () -> d.minutesInZone(0, 4));
            d.moveSession(0, 3);
            due("the day after the test", 7, () -> d.minutesInZone(0, 1));
            d.removeTest(2);
            due("without the test", 7, () -> d.minutesInZone(0, 4));
        });
    }

    private void loads() {
        terms("Sessions");
        sentence("The load of a session is the sum, over its parts, of the minutes multiplied by the weight of their zone.", () -> {
            due("no parts", 0, () -> withSession(0, 0).loadOf(0));
            due("a part of each zone", 1 + 4 + 9 + 20 + 40, () -> withSession(0, 0, 1, 0, 2, 160, 3, 180, 4, 200, 5, 220).loadOf(0));
            due("8 parts", 8 * 30 * 8, () -> withSession(0, 0, 30, 500, 30, 500, 30, 500, 30, 500, 30, 500, 30, 500, 30, 500, 30, 500).loadOf(0));
            TrainingDiary d = withSession(0, 0, 120, 500, 120, 500);
            d.setWeight(5, 0);
            due("a weight of 0", 0, () -> d.loadOf(0));
            d.setWeight(5, 100);
            due("a weight of 100", 24000, () -> d.loadOf(0));
        });
        sentence("The load of a day is the sum of the loads of its sessions.", () -> {
            due("no sessions", 0, () -> new TrainingDiary().loadOn(0));
            TrainingDiary d = Diaries.on(2);
            d.setWeight(5, 100);
            for (int i = 0; i < 39; i++) {
                Diaries.session(d, 1, 120, 500, 120, 500);
            }
            Diaries.session(d, 2, 1, 0);
            dueWith(() -> d, TrainingDiary::loadOn, 0, 0, 1, 936000, 2, 1);
            d.moveSession(39, 0);
            dueWith(() -> d, TrainingDiary::loadOn, 0, 1, 1, 936000, 2, 0);
        });
    }

    private void fitnessAndFatigue() {
        terms("Fitness, fatigue and form");
        sentence("Fitness and fatigue are whole numbers and are 0 before the day 0.", () -> {
            due("form of the day 0", 0, () -> withSession(0, 0, 120, 500).formOn(0));
            due("fitness of the day 0", 1000 / 42, () -> withSession(0, 0, 1, 0).fitnessOn(0));
            due("fatigue of the day 0", 1000 / 7, () -> withSession(0, 0, 1, 0).fatigueOn(0));
        });
        sentence("On each day, the fitness increases by (1000 * l - f) / 42, where l is the load of the day and f the fitness before it,"
                + " and the fatigue increases by (1000 * l - g) / 7, where g is the fatigue before it; both quotients are rounded toward 0.", () -> {
            TrainingDiary d = withSession(30, 0, 1, 0);
            Diaries.session(d, 30, 1, 0);
            // 23.8 and 142.8 at first; then 23 / 42 is less than 1, and a quotient that is not whole takes less away.
            dueWith(() -> d, TrainingDiary::fitnessOn, 0, 23, 1, 23, 29, 23, 30, 46);
            dueWith(() -> d, TrainingDiary::fatigueOn, 0, 142, 1, 122, 2, 105, 3, 90, 4, 78, 5, 67, 22, 7, 23, 6, 24, 6, 29, 6, 30, 148);
            TrainingDiary exact = withSession(2, 0, 42, 0);
            dueWith(() -> exact, TrainingDiary::fitnessOn, 0, 1000, 1, 977, 2, 954);
            dueWith(() -> exact, TrainingDiary::fatigueOn, 0, 6000, 1, 5143, 2, 4409);
            // A load below the fatigue takes fatigue away and adds fitness.
            TrainingDiary both = withSession(1, 0, 42, 0);
            Diaries.session(both, 1, 2, 0);
            due("fitness", 1000 + 23, () -> both.fitnessOn(1));
            due("fatigue", 6000 - 571, () -> both.fatigueOn(1));
        });
    }

    private void form() {
        terms("Fitness, fatigue and form");
        sentence("The form on a day is the fitness minus the fatigue, both at the end of the day before.", () -> {
            TrainingDiary d = withSession(199, 198, 42, 0);
            dueWith(() -> d, TrainingDiary::formOn, 0, 0, 1, 0, 198, 0, 199, -5000);
            d.moveSession(0, 0);
            dueWith(() -> d, TrainingDiary::formOn, 0, 0, 1, -5000, 2, 977 - 5143);
            d.moveSession(0, 199);
            dueWith(() -> d, TrainingDiary::formOn, 0, 0, 198, 0, 199, 0);
        });
    }

    private void records() {
        terms("Records");
        sentence("The record of a number of days is the greatest sum of the loads of so many consecutive days from the day 0 to today.", () -> {
            TrainingDiary d = withSession(4, 0, 5, 0);
            Diaries.session(d, 4, 6, 0);
            Diaries.session(d, 2, 3, 0);
            dueWith(() -> d, TrainingDiary::bestDays, 1, 6, 2, 6, 3, 9, 4, 9, 5, 14, 6, THERE);
            d.moveSession(1, 3);
            dueWith(() -> d, TrainingDiary::bestDays, 1, 6, 2, 9, 3, 9, 4, 14, 5, 14);
            d.pass(1);
            dueWith(() -> d, TrainingDiary::bestDays, 6, 14, 7, THERE);
        });
        sentence("The record of a number of minutes is the greatest sum of the intensities of so many consecutive minutes of one session,"
                + " where each minute has the intensity of its part.", () -> {
            TrainingDiary d = withSession(0, 0, 2, 100, 3, 300, 2, 200);
            Diaries.session(d, 0, 1, 450, 1, 10);
            dueWith(() -> d, TrainingDiary::bestEffort, 1, 450, 2, 600, 3, 900, 4, 1100, 5, 1300, 6, 1400, 7, 1500, 8, THERE);
            dueWith(() -> d, TrainingDiary::bestEffortByTrying, 1, 450, 2, 600, 3, 900, 4, 1100, 5, 1300, 6, 1400, 7, 1500, 8, THERE);
        });
    }

    /** A plan that began on the day 0, with sessions of zone 1 whose loads are given for the days from 0 on. */
    private static TrainingDiary planned(int today, int[] targets, int... loads) {
        TrainingDiary d = new TrainingDiary();
        d.startPlan();
        Diaries.targets(d, targets);
        if (today > 0) {
            d.pass(today);
        }
        for (int day = 0; day < loads.length; day++) {
            if (loads[day] > 0) {
                Diaries.session(d, day, loads[day], 0);
            }
        }
        return d;
    }

    private void courseIs(TrainingDiary d, Object due, int missed, int dropped) {
        due("due", due, d::dueEntry);
        due("missed", missed, d::missedDays);
        due("dropped", dropped, d::droppedEntries);
    }

    private void planOfEntries() {
        terms("Plan");
        sentence("There is at most one plan.", () -> {
            TrainingDiary d = planned(0, new int[] {1, 2, 3});
            due("earlier entries", 3, d::startPlan);
            due("entries of it", INDEX, () -> d.targetAt(0));
            due("its first entry", 1, () -> d.addTarget(4));
            due("target", 4, () -> d.targetAt(0));
            due("only one", INDEX, () -> d.targetAt(1));
        });
        sentence("It has a first day and up to 28 entries, each with a target, which are added on the first day.", () -> {
            TrainingDiary d = planned(0, new int[27]);
            due("28th", 28, () -> d.addTarget(20000));
            due("29th", STATE, () -> d.addTarget(0));
            due("target of the 28th", 20000, () -> d.targetAt(27));
            due("a day later", STATE, () -> planned(1, new int[] {1}).addTarget(1));
        });
        sentence("On the first day, the entry 0 is due.", () -> {
            courseIs(planned(0, new int[] {5, 5}), 0, 0, 0);
            courseIs(planned(0, new int[] {0, 0}), 0, 0, 0);
            courseIs(planned(0, new int[] {5, 5}, 5), 0, 0, 0);
        });
    }

    private void planDays() {
        terms("Plan");
        int[] targets = {10, 10, 10};
        sentence("The plan goes from its first day to the day before today, day by day.", () -> {
            courseIs(planned(0, targets, 9), 0, 0, 0);
            courseIs(planned(1, targets, 9, 9), 1, 0, 0);
            courseIs(planned(2, targets, 9, 9), 2, 0, 0);
            TrainingDiary d = withSession(5, 4, 9, 0);
            d.startPlan();
            Diaries.targets(d, targets);
            courseIs(d, 0, 0, 0);
            d.pass(1);
            courseIs(d, 0, 1, 0);
        });
        sentence("A day on which an entry is due is missed if two times the load of the day is less than the target.", () -> {
            courseIs(planned(1, targets, 4), 0, 1, 0);
            courseIs(planned(1, targets, 5), 1, 0, 0);
            courseIs(planned(1, new int[] {11, 1}, 5), 0, 1, 0);
            courseIs(planned(1, new int[] {11, 1}, 6), 1, 0, 0);
            courseIs(planned(1, new int[] {1, 1}), 0, 1, 0);
            courseIs(planned(1, new int[] {0, 1}), 1, 0, 0);
        });
        sentence("If it is not missed, the next entry is due on the next day.", () -> {
            courseIs(planned(1, targets, 120), 1, 0, 0);
            courseIs(planned(2, targets, 0, 120), 1, 1, 0);
            courseIs(planned(3, targets, 0, 0, 5), 1, 2, 0);
            courseIs(planned(6, targets, 0, 0, 5, 0, 0, 5), 2, 4, 0);
        });
        sentence("If it is missed, the same entry is due on the next day; but when an entry has been missed on its third day, it is dropped,"
                + " and the next entry is due on the next day.", () -> {
            courseIs(planned(1, targets), 0, 1, 0);
            courseIs(planned(2, targets), 0, 2, 0);
            courseIs(planned(3, targets), 1, 3, 1);
            courseIs(planned(5, targets), 1, 5, 1);
            courseIs(planned(6, targets), 2, 6, 2);
            courseIs(planned(8, targets), 2, 8, 2);
            courseIs(planned(5, targets, 0, 0, 5), 1, 4, 0);
            courseIs(planned(6, targets, 0, 0, 5), 2, 5, 1);
            courseIs(planned(4, targets, 5, 0, 0, 0), 2, 3, 1);
        });
    }

    private void planEnds() {
        terms("Plan");
        sentence("The plan is over when no entry is due any more; a plan without entries is over, too.", () -> {
            due("without a plan", false, () -> new TrainingDiary().isPlanOver());
            due("without entries", true, () -> planned(0, new int[0]).isPlanOver());
            due("without entries, later", true, () -> planned(9, new int[0]).isPlanOver());
            int[] targets = {10, 10};
            due("the last one is due", false, () -> planned(1, targets, 5, 5).isPlanOver());
            courseIs(planned(2, targets, 5, 5), THERE, 0, 0);
            courseIs(planned(5, targets), 1, 5, 1);
            courseIs(planned(6, targets), THERE, 6, 2);
            courseIs(planned(7, targets), THERE, 6, 2);
            courseIs(planned(30, targets, 5, 5), THERE, 0, 0);
        });
    }

    private void planChanges() {
        terms("Plan");
        sentence("The course of the plan is always found from the loads as they are now, so it changes when sessions, tests, bounds or weights change.", () -> {
            TrainingDiary d = planned(4, new int[] {10, 10, 10});
            courseIs(d, 1, 4, 1);
            d.addSession(0);
            courseIs(d, 1, 4, 1);
            d.addPart(0, 5, 199);
            courseIs(d, 2, 3, 1);
            d.setWeight(3, 0);
            courseIs(d, 1, 4, 1);
            d.setBound(4, 99);
            courseIs(d, 2, 3, 1);
            d.addTest(0, 220);
            courseIs(d, 1, 4, 1);
            d.removeTest(0);
            courseIs(d, 2, 3, 1);
            d.moveSession(0, 3);
            courseIs(d, 2, 3, 1);
            d.moveSession(0, 2);
            courseIs(d, 1, 3, 0);
            d.clearParts(0);
            courseIs(d, 1, 4, 1);
            d.undo();
            courseIs(d, 1, 3, 0);
            d.removeSession(0);
            courseIs(d, 1, 4, 1);
        });
    }

    /** The diary, of which nothing can be undone. */
    private static TrainingDiary settled(Supplier<TrainingDiary> make) {
        TrainingDiary d = make.get();
        d.save();
        d.restore();
        return d;
    }

    /** The call is one modification: undo brings back all of before it. */
    private void oneModification(Supplier<TrainingDiary> make, Asked call) {
        TrainingDiary d = settled(make);
        due("it succeeds", false, () -> Checks.told(() -> call.of(d)).startsWith("throws."));
        due("it can be undone", 0, d::undo);
        due("all is as before", Diaries.picture(settled(make)), () -> Diaries.picture(d));
    }

    private void noModification(Asked call) {
        TrainingDiary d = settled(Diaries::rich);
        Checks.told(() -> call.of(d));
        due("it is no modification", STATE, d::undo);
    }

    private static TrainingDiary planOfToday() {
        TrainingDiary d = Diaries.rich();
        d.startPlan();
        d.addTarget(5);
        return d;
    }

    private void modifications() {
        terms("Undo");
        sentence("The successful calls of pass, addTest, removeTest, setBound, setWeight, addSession, addPart, clearParts, moveSession, removeSession,"
                + " startPlan and addTarget are modifications, even if they change nothing.", () -> {
            oneModification(Diaries::rich, d -> d.pass(30));
            oneModification(Diaries::rich, d -> d.addTest(0, 100));
            oneModification(Diaries::rich, d -> d.removeTest(4));
            oneModification(Diaries::rich, d -> d.removeTest(9));
            oneModification(Diaries::rich, d -> d.setBound(3, 99));
            oneModification(Diaries::rich, d -> d.setBound(3, 95));
            oneModification(Diaries::rich, d -> d.setBound(2, 1));
            oneModification(Diaries::rich, d -> d.setBound(5, 300));
            oneModification(Diaries::rich, d -> d.setWeight(1, 100));
            oneModification(Diaries::rich, d -> d.setWeight(1, 2));
            oneModification(Diaries::rich, d -> d.setWeight(5, 0));
            oneModification(Diaries::rich, d -> d.addSession(0));
            oneModification(Diaries::rich, d -> d.addPart(1, 10, 500));
            oneModification(Diaries::rich, d -> d.clearParts(1));
            oneModification(Diaries::rich, d -> d.clearParts(2));
            oneModification(Diaries::rich, d -> d.moveSession(1, 11));
            oneModification(Diaries::rich, d -> d.moveSession(1, 4));
            oneModification(Diaries::rich, d -> d.removeSession(0));
            oneModification(TrainingDiary::new, TrainingDiary::startPlan);
            oneModification(Diaries::rich, TrainingDiary::startPlan);
            oneModification(TermEdges::planOfToday, TrainingDiary::startPlan);
            oneModification(TermEdges::planOfToday, d -> d.addTarget(6));
            noModification(d -> d.addSession(12));
            noModification(TrainingDiary::save);
            noModification(d -> d.writeWeek(0));
            noModification(TrainingDiary::meanLoad);
        });
    }

    private void lastSix() {
        terms("Undo");
        sentence("The last 6 of them can be undone.", () -> {
            TrainingDiary d = new TrainingDiary();
            d.setWeight(1, 10);
            d.setWeight(1, 10);
            for (int weight = 11; weight <= 15; weight++) {
                d.setWeight(1, weight);
            }
            int[] weights = {14, 13, 12, 11, 10, 10};
            for (int i = 0; i < 6; i++) {
                int left = 5 - i;
                due("undo", left, d::undo);
                due("weight", weights[i], () -> d.weightOf(1));
            }
            due("7th", STATE, d::undo);
            due("the first one stays", 10, () -> d.weightOf(1));
            TrainingDiary plans = planOfToday();
            plans.startPlan();
            plans.addTarget(6);
            plans.undo();
            plans.undo();
            due("the target of the plan before", 5, () -> plans.targetAt(0));
        });
    }

    private void lineAndSnapshot() {
        terms("Undo");
        sentence("The line and the snapshot itself are not affected by undo and restore; everything else is, including the id that is given next.", () -> {
            TrainingDiary d = new TrainingDiary();
            d.addSession(0);
            d.save();
            d.addSession(0);
            d.writeWeek(0);
            due("undo", 1, d::undo);
            due("line after undo", "0 - - - - - -", () -> Diaries.line(d, 13));
            due("id after undo", 1, () -> d.addSession(0));
            d.undo();
            d.undo();
            due("sessions", 0, d::sessionCount);
            due("id after undo of the first one", 0, () -> d.addSession(0));
            d.undo();
            due("the snapshot after undo", 1, d::restore);
            due("id after restore", 1, () -> d.addSession(0));
            due("week", "0 - - - - - -", () -> Diaries.week(d, 0));
            d.addPart(1, 1, 0);
            due("another week", "1 - - - - - -", () -> Diaries.week(d, 0));
            d.restore();
            due("line after restore", "1 - - - - - -", () -> Diaries.line(d, 13));
            TrainingDiary unwritten = new TrainingDiary();
            unwritten.save();
            unwritten.writeWeek(0);
            unwritten.restore();
            due("a line that was empty at the snapshot", '.', () -> unwritten.lineAt(0));
        });
    }

    private void refusedCalls() {
        terms("Exceptions");
        sentence("A method that throws an exception changes nothing.", () -> {
            Supplier<TrainingDiary> rich = Diaries::rich;
            refused(rich, RANGE, d -> d.pass(31));
            refused(Diaries::full, STATE, d -> d.pass(1));
            refused(rich, STATE, d -> d.addTest(9, 100));
            refused(rich, THERE, d -> d.removeTest(10));
            refused(rich, STATE, d -> d.setBound(4, 110));
            refused(rich, RANGE, d -> d.setWeight(1, 101));
            refused(rich, RANGE, d -> d.addSession(12));
            refused(Diaries::full, STATE, d -> d.addSession(0));
            refused(rich, RANGE, d -> d.addPart(0, 121, 0));
            refused(Diaries::full, STATE, d -> d.addPart(0, 1, 0));
            refused(rich, THERE, d -> d.clearParts(3));
            refused(rich, RANGE, d -> d.moveSession(0, 12));
            refused(rich, THERE, d -> d.removeSession(3));
            refused(rich, STATE, d -> d.addTarget(1));
            refused(rich, RANGE, d -> d.writeWeek(12));
            refused(rich, INDEX, d -> d.lineAt(13));
            refused(rich, THERE, d -> d.daysToForm(100000));
            refused(rich, THERE, d -> d.bestDays(60));
            refused(rich, THERE, d -> d.bestEffort(240));
            refused(TrainingDiary::new, STATE, TrainingDiary::undo);
            refused(Diaries::full, STATE, TrainingDiary::restore);
        });
    }

    private void firstException() {
        terms("Exceptions");
        sentence("If several exceptions apply, the one that is documented first is thrown.", () -> {
            refused(Diaries::full, RANGE, d -> d.pass(31));
            refused(Diaries::full, RANGE, d -> d.addTest(0, 401));
            refused(Diaries::full, RANGE, d -> d.addTest(200, 100));
            refused(Diaries::rich, RANGE, d -> d.setBound(3, 0));
            refused(Diaries::rich, RANGE, d -> d.setBound(4, 301));
            refused(Diaries::full, RANGE, d -> d.addSession(200));
            refused(Diaries::full, RANGE, d -> d.addSession(-1));
            refused(Diaries::rich, THERE, d -> d.addPart(3, 0, 501));
            refused(Diaries::full, RANGE, d -> d.addPart(0, 121, 0));
            refused(Diaries::full, RANGE, d -> d.addPart(0, 1, 501));
            refused(Diaries::full, THERE, d -> d.addPart(40, 121, 0));
            refused(Diaries::rich, THERE, d -> d.moveSession(3, 12));
            refused(Diaries::rich, THERE, d -> d.minutesInZone(3, 6));
            refused(TrainingDiary::new, RANGE, d -> d.zoneShare(6));
            refused(TrainingDiary::new, RANGE, d -> d.daysToForm(100001));
            refused(TrainingDiary::new, RANGE, d -> d.bestDays(61));
            refused(TrainingDiary::new, RANGE, d -> d.bestDaysByTrying(61));
            refused(TrainingDiary::new, RANGE, d -> d.bestDaysStart(61));
            refused(TrainingDiary::new, RANGE, d -> d.bestEffort(241));
            refused(TrainingDiary::new, RANGE, d -> d.bestEffortByTrying(241));
            refused(TrainingDiary::new, RANGE, d -> d.bestEffortSession(241));
            refused(TrainingDiary::new, RANGE, d -> d.addTarget(20001));
            refused(Diaries::full, RANGE, d -> d.addTarget(-1));
        });
    }
}
