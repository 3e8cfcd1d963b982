/** Days, tests and zones: the edges of the promises 1 to 12. */
final class DayEdges extends Edges {
    private static final int[] NO_ZONES = {0, -1, 6, MIN, MAX};
    private static final int[] NO_BOUNDED_ZONES = {1, 0, -1, 6, MIN, MAX};
    private static final int[] NO_DAYS = {-1, 200, MIN, MAX};

    DayEdges(Sentences sentences, Checks checks) {
        super(sentences, checks);
    }

    @Override
    void test() {
        newObject();
        pass();
        today();
        addTestArguments();
        addTestRefused();
        addTestAnswer();
        removeTest();
        testCount();
        thresholdOn();
        setBoundArguments();
        setBoundRefused();
        boundOf();
        setWeight();
        weightOf();
        zoneOf();
    }

    private void newObject() {
        promise(1);
        sentence("Creates a diary without tests, sessions and plan.", () -> {
            TrainingDiary d = new TrainingDiary();
            due("tests", 0, d::testCount);
            due("a test", THERE, () -> d.removeTest(0));
            due("sessions", 0, d::sessionCount);
            due("first session", INDEX, () -> d.sessionAt(0));
            due("session 0", THERE, () -> d.dayOf(0));
            due("plan that is over", false, d::isPlanOver);
            due("plan that is under way", THERE, d::dueEntry);
            due("target", INDEX, () -> d.targetAt(0));
            due("plan for a target", STATE, () -> d.addTarget(0));
            due("entries of an earlier plan", 0, d::startPlan);
        });
    }

    private void pass() {
        promise(2);
        sentence("- `days`: the number of days, 1 to 30", () ->
                dueWith(TrainingDiary::new, TrainingDiary::pass, 1, 1, 2, 2, 29, 29, 30, 30));
        sentence("Throws `IllegalArgumentException` if the number of days is out of range", () ->
                refusedWith(Diaries::rich, RANGE, TrainingDiary::pass, 0, -1, 31, MIN, MAX));
        sentence("Throws `IllegalStateException` if today would be greater than 199", () -> {
            dueWith(() -> Diaries.on(169), TrainingDiary::pass, 30, 199);
            dueWith(() -> Diaries.on(170), TrainingDiary::pass, 29, 199, 30, STATE);
            dueWith(() -> Diaries.on(198), TrainingDiary::pass, 1, 199, 2, STATE);
            refusedWith(Diaries::full, STATE, TrainingDiary::pass, 1, 2, 30);
        });
    }

    private void today() {
        promise(3);
        sentence("Returns today.", () -> {
            due("of a new diary", 0, () -> new TrainingDiary().today());
            due("at the end", 199, () -> Diaries.on(199).today());
            TrainingDiary d = Diaries.on(199);
            due("too far", STATE, () -> d.pass(1));
            due("after a refused call", 199, d::today);
        });
    }

    private void addTestArguments() {
        promise(4);
        sentence("- `day`: the day, 0 to today", () -> {
            dueWith(TrainingDiary::new, (d, day) -> d.addTest(day, 200), 0, 0, 1, RANGE);
            dueWith(() -> Diaries.on(20), (d, day) -> d.addTest(day, 200), 0, 0, 20, 0);
            dueWith(() -> Diaries.on(199), (d, day) -> d.addTest(day, 200), 0, 0, 199, 0);
        });
        sentence("- `threshold`: the threshold, 50 to 400", () -> {
            dueWith(TrainingDiary::new, (d, threshold) -> d.addTest(0, threshold), 50, 0, 400, 0);
            TrainingDiary least = new TrainingDiary();
            least.addTest(0, 50);
            due("least threshold", 50, () -> least.thresholdOn(0));
            TrainingDiary most = new TrainingDiary();
            most.addTest(0, 400);
            due("greatest threshold", 400, () -> most.thresholdOn(0));
        });
        sentence("Throws `IllegalArgumentException` if an argument is out of range", () -> {
            refusedWith(Diaries::rich, RANGE, (d, day) -> d.addTest(day, 200), -1, 12, MIN, MAX);
            refusedWith(Diaries::rich, RANGE, (d, threshold) -> d.addTest(1, threshold), 49, 401, 0, -200, MIN, MAX);
        });
    }

    private void addTestRefused() {
        promise(4);
        sentence("Throws `IllegalStateException` if there are 10 tests, or there is a test on this day", () -> {
            refused(Diaries::full, STATE, d -> d.addTest(1, 200));
            refused(Diaries::full, STATE, d -> d.addTest(0, 200));
            refused(Diaries::rich, STATE, d -> d.addTest(4, 200));
            refused(Diaries::rich, STATE, d -> d.addTest(4, 250));
            TrainingDiary d = Diaries.on(10);
            for (int i = 0; i < 9; i++) {
                d.addTest(i, 200);
            }
            due("a test on the day, with 9 tests", STATE, () -> d.addTest(8, 200));
            due("10th test", 0, () -> d.addTest(9, 200));
            due("11th test", STATE, () -> d.addTest(10, 200));
            d.removeTest(0);
            due("on a day that was freed", 0, () -> d.addTest(0, 200));
            due("11th test again", STATE, () -> d.addTest(10, 200));
        });
    }

    private void addTestAnswer() {
        promise(4);
        sentence("Returns the number of sessions whose loads change by this.", () -> {
            TrainingDiary d = Diaries.on(20);
            for (int i = 0; i < 40; i++) {
                Diaries.session(d, i / 2, 1, 200);
            }
            due("all sessions", 40, () -> d.addTest(0, 400));
            due("those from the day on", 20, () -> d.addTest(10, 200));
            due("those up to the next test", 2, () -> d.addTest(9, 200));
            due("those of the last day with sessions", 2, () -> d.addTest(19, 400));
            due("none behind all sessions", 0, () -> d.addTest(20, 50));
            due("none with the threshold that was in force", 0, () -> d.addTest(5, 400));
            TrainingDiary empty = Diaries.on(1);
            empty.addSession(1);
            due("a session without parts", 0, () -> empty.addTest(1, 50));
            dueWith(DayEdges::withMinuteBelowZone2, (d1, threshold) -> d1.addTest(0, threshold), 400, 0, 199, 0, 198, 1, 50, 1);
        });
    }

    private static TrainingDiary withMinuteBelowZone2() {
        TrainingDiary d = new TrainingDiary();
        Diaries.session(d, 0, 1, 159);
        return d;
    }

    private void removeTest() {
        promise(5);
        sentence("- `day`: the day of the test", () -> {
            due("the day 0", 300, () -> withTest(0, 300).removeTest(0));
            due("the last day", 50, () -> withTest(199, 50).removeTest(199));
            TrainingDiary backward = Diaries.full();
            TrainingDiary forward = Diaries.full();
            for (int i = 0; i < 10; i++) {
                int first = i;
                int last = 9 - i;
                due("from the first", 50 + 35 * first, () -> forward.removeTest(20 * first));
                due("from the last", 50 + 35 * last, () -> backward.removeTest(20 * last));
            }
            due("none are left", 0, () -> forward.testCount() + backward.testCount());
        });
        sentence("Throws `NoSuchElementException` if there is no test on this day", () -> {
            due("no tests at all", THERE, () -> new TrainingDiary().removeTest(0));
            refusedWith(Diaries::rich, THERE, TrainingDiary::removeTest, 3, 5, 0, 11, 12, 199, 200, -1, MIN, MAX);
            TrainingDiary d = withTest(7, 100);
            d.removeTest(7);
            due("removed before", THERE, () -> d.removeTest(7));
        });
    }

    private static TrainingDiary withTest(int day, int threshold) {
        TrainingDiary d = Diaries.on(day);
        d.addTest(day, threshold);
        return d;
    }

    private void testCount() {
        promise(6);
        sentence("Returns the number of tests.", () -> {
            due("none", 0, () -> new TrainingDiary().testCount());
            due("as many as can be", 10, () -> Diaries.full().testCount());
            TrainingDiary d = withTest(0, 50);
            due("refused", STATE, () -> d.addTest(0, 50));
            due("one", 1, d::testCount);
            d.removeTest(0);
            due("none again", 0, d::testCount);
        });
    }

    private void thresholdOn() {
        promise(7);
        sentence("- `day`: the day, 0 to 199", () -> {
            dueWith(TrainingDiary::new, TrainingDiary::thresholdOn, 0, 200, 1, 200, 199, 200);
            dueWith(() -> withTest(0, 321), TrainingDiary::thresholdOn, 0, 321, 199, 321);
            dueWith(() -> withTest(199, 321), TrainingDiary::thresholdOn, 0, 200, 198, 200, 199, 321);
        });
        sentence("Throws `IllegalArgumentException` if the day is out of range", () ->
                refusedWith(Diaries::rich, RANGE, TrainingDiary::thresholdOn, NO_DAYS));
    }

    private void setBoundArguments() {
        promise(8);
        sentence("- `zone`: the zone, 2 to 5", () ->
                dueWith(TrainingDiary::new, (d, zone) -> d.setBound(zone, 75 + 10 * (zone - 1)), 2, 80, 3, 90, 4, 100, 5, 110));
        sentence("- `percent`: the new lower bound in percent, 1 to 300", () -> {
            TrainingDiary d = new TrainingDiary();
            due("least", 80, () -> d.setBound(2, 1));
            due("least, told", 1, () -> d.boundOf(2));
            due("greatest", 110, () -> d.setBound(5, 300));
            due("greatest, told", 300, () -> d.boundOf(5));
        });
        sentence("Throws `IllegalArgumentException` if an argument is out of range", () -> {
            refusedWith(Diaries::rich, RANGE, (d, zone) -> d.setBound(zone, 85), NO_BOUNDED_ZONES);
            refusedWith(Diaries::rich, RANGE, (d, percent) -> d.setBound(2, percent), 0, -1, MIN);
            refusedWith(Diaries::rich, RANGE, (d, percent) -> d.setBound(5, percent), 301, MAX);
        });
    }

    private void setBoundRefused() {
        promise(8);
        sentence("Throws `IllegalStateException` if the bounds of the zones 2 to 5 would not increase strictly", () -> {
            // The bounds of the rich diary are 80, 95, 100 and 110.
            refusedWith(Diaries::rich, STATE, (d, percent) -> d.setBound(2, percent), 95, 96, 300);
            refusedWith(Diaries::rich, STATE, (d, percent) -> d.setBound(3, percent), 1, 79, 80, 100, 101, 300);
            refusedWith(Diaries::rich, STATE, (d, percent) -> d.setBound(4, percent), 1, 94, 95, 110, 111, 300);
            refusedWith(Diaries::rich, STATE, (d, percent) -> d.setBound(5, percent), 1, 99, 100);
            dueWith(Diaries::rich, (d, percent) -> d.setBound(2, percent), 1, 80, 80, 80, 94, 80);
            dueWith(Diaries::rich, (d, percent) -> d.setBound(3, percent), 81, 95, 95, 95, 99, 95);
            dueWith(Diaries::rich, (d, percent) -> d.setBound(4, percent), 96, 100, 100, 100, 109, 100);
            dueWith(Diaries::rich, (d, percent) -> d.setBound(5, percent), 101, 110, 110, 110, 300, 110);
            TrainingDiary high = new TrainingDiary();
            for (int zone = 5; zone >= 2; zone--) {
                high.setBound(zone, 295 + zone);
            }
            due("no room below the greatest", STATE, () -> high.setBound(4, 300));
            due("the lowest of the highest", 297, () -> high.boundOf(2));
            TrainingDiary low = new TrainingDiary();
            for (int zone = 2; zone <= 5; zone++) {
                low.setBound(zone, zone - 1);
            }
            due("no room above the least", STATE, () -> low.setBound(3, 1));
            due("the highest of the lowest", 4, () -> low.boundOf(5));
        });
    }

    private void boundOf() {
        promise(9);
        sentence("- `zone`: the zone, 2 to 5", () ->
                dueWith(TrainingDiary::new, TrainingDiary::boundOf, 2, 80, 3, 90, 4, 100, 5, 110));
        sentence("Throws `IllegalArgumentException` if there is no such zone, or it is the zone 1", () ->
                refusedWith(Diaries::rich, RANGE, TrainingDiary::boundOf, NO_BOUNDED_ZONES));
    }

    private void setWeight() {
        promise(10);
        sentence("- `zone`: the zone, 1 to 5", () ->
                dueWith(TrainingDiary::new, (d, zone) -> d.setWeight(zone, 7), 1, 1, 2, 2, 3, 3, 4, 5, 5, 8));
        sentence("- `weight`: the new weight, 0 to 100", () -> {
            TrainingDiary d = new TrainingDiary();
            Diaries.session(d, 0, 120, 0);
            due("least", 1, () -> d.setWeight(1, 0));
            due("least, told", 0, () -> d.weightOf(1));
            due("load with it", 0, () -> d.loadOf(0));
            due("greatest", 0, () -> d.setWeight(1, 100));
            due("greatest, told", 100, () -> d.weightOf(1));
            due("load with it", 12000, () -> d.loadOf(0));
        });
        sentence("Throws `IllegalArgumentException` if an argument is out of range", () -> {
            refusedWith(Diaries::rich, RANGE, (d, zone) -> d.setWeight(zone, 1), NO_ZONES);
            refusedWith(Diaries::rich, RANGE, (d, weight) -> d.setWeight(1, weight), -1, 101, MIN, MAX);
            refusedWith(Diaries::rich, RANGE, (d, weight) -> d.setWeight(5, weight), -1, 101, MIN, MAX);
        });
    }

    private void weightOf() {
        promise(11);
        sentence("- `zone`: the zone, 1 to 5", () ->
                dueWith(TrainingDiary::new, TrainingDiary::weightOf, 1, 1, 2, 2, 3, 3, 4, 5, 5, 8));
        sentence("Throws `IllegalArgumentException` if there is no such zone", () ->
                refusedWith(Diaries::rich, RANGE, TrainingDiary::weightOf, NO_ZONES));
    }

    private void zoneOf() {
        promise(12);
        sentence("- `day`: the day, 0 to 199", () -> {
            dueWith(TrainingDiary::new, (d, day) -> d.zoneOf(day, 200), 0, 4, 1, 4, 199, 4);
            dueWith(() -> withTest(199, 400), (d, day) -> d.zoneOf(day, 200), 0, 4, 198, 4, 199, 1);
        });
        sentence("- `intensity`: the intensity, 0 to 500", () -> {
            dueWith(TrainingDiary::new, (d, intensity) -> d.zoneOf(0, intensity), 0, 1, 1, 1, 500, 5);
            dueWith(() -> withTest(0, 50), (d, intensity) -> d.zoneOf(0, intensity), 0, 1, 39, 1, 40, 2, 500, 5);
            dueWith(() -> withTest(0, 400), (d, intensity) -> d.zoneOf(0, intensity), 0, 1, 319, 1, 320, 2, 500, 5);
        });
        sentence("Throws `IllegalArgumentException` if an argument is out of range", () -> {
            refusedWith(Diaries::rich, RANGE, (d, day) -> d.zoneOf(day, 200), NO_DAYS);
            refusedWith(Diaries::rich, RANGE, (d, intensity) -> d.zoneOf(0, intensity), -1, 501, MIN, MAX);
        });
    }
}
