import java.util.function.Function;

/** For each promise of the document: ordinary inputs, the edges that it names, and wrong inputs. */
public final class PromisesTest {
    private static final int MIN = Integer.MIN_VALUE;
    private static final int MAX = Integer.MAX_VALUE;
    private static final Checks CHECKS = new Checks();

    public static void main(String[] args) {
        newObject();
        daysPass();
        tests();
        thresholds();
        bounds();
        weights();
        zones();
        sessions();
        parts();
        sessionChanges();
        orderOfSessions();
        minutesAndLoads();
        shares();
        fitnessAndFatigue();
        changesBehindKnownDays();
        form();
        waitForForm();
        firstCalls();
        recordsOfDays();
        recordsOfMinutes();
        plan();
        planLimits();
        planEnds();
        planOfThePast();
        week();
        undo();
        snapshots();
        CHECKS.end("PromisesTest");
    }

    /** Promises 1, 3, 6, 18. */
    private static void newObject() {
        TrainingDiary d = new TrainingDiary();
        CHECKS.due("new: today", 0, d::today);
        CHECKS.due("new: testCount", 0, d::testCount);
        CHECKS.due("new: sessionCount", 0, d::sessionCount);
        CHECKS.due("new: isPlanOver", false, d::isPlanOver);
        CHECKS.due("new: missedDays", 0, d::missedDays);
        CHECKS.due("new: droppedEntries", 0, d::droppedEntries);
        CHECKS.due("new: meanLoad", 0.0, d::meanLoad);
        CHECKS.due("new: bestFormDay", 0, d::bestFormDay);
        CHECKS.due("new: fitnessOn", 0, () -> d.fitnessOn(0));
        CHECKS.due("new: fatigueOn", 0, () -> d.fatigueOn(0));
        CHECKS.notThere("new: dueEntry", d::dueEntry);
        CHECKS.notThere("new: planEnd", d::planEnd);
        CHECKS.noSuchIndex("new: targetAt", () -> d.targetAt(0));
        CHECKS.noSuchIndex("new: sessionAt", () -> d.sessionAt(0));
        CHECKS.noSuchIndex("new: lineAt", () -> d.lineAt(0));
        CHECKS.notPossible("new: undo", d::undo);
        CHECKS.notPossible("new: restore", d::restore);
        CHECKS.due("new: first id", 0, () -> d.addSession(0));
    }

    /** Promises 2 and 3. */
    private static void daysPass() {
        TrainingDiary d = new TrainingDiary();
        CHECKS.outOfRange("pass 0", () -> d.pass(0));
        CHECKS.outOfRange("pass -1", () -> d.pass(-1));
        CHECKS.outOfRange("pass 31", () -> d.pass(31));
        CHECKS.outOfRange("pass least", () -> d.pass(MIN));
        CHECKS.outOfRange("pass most", () -> d.pass(MAX));
        CHECKS.due("today unchanged", 0, d::today);
        CHECKS.due("pass 1", 1, () -> d.pass(1));
        CHECKS.due("pass 30", 31, () -> d.pass(30));
        CHECKS.due("today", 31, d::today);
        TrainingDiary late = Diaries.on(198);
        CHECKS.notPossible("pass 2 on 198", () -> late.pass(2));
        CHECKS.outOfRange("pass 31 on 198", () -> late.pass(31));
        CHECKS.due("pass 1 on 198", 199, () -> late.pass(1));
        CHECKS.notPossible("pass 1 on 199", () -> late.pass(1));
        CHECKS.due("last day", 199, late::today);
    }

    /** Promises 4 to 6. */
    private static void tests() {
        TrainingDiary d = Diaries.on(20);
        CHECKS.outOfRange("test before 0", () -> d.addTest(-1, 200));
        CHECKS.outOfRange("test after today", () -> d.addTest(21, 200));
        CHECKS.outOfRange("threshold 49", () -> d.addTest(0, 49));
        CHECKS.outOfRange("threshold 401", () -> d.addTest(0, 401));
        CHECKS.due("threshold 50", 0, () -> d.addTest(20, 50));
        CHECKS.due("threshold 400", 0, () -> d.addTest(0, 400));
        CHECKS.notPossible("second test on a day", () -> d.addTest(0, 300));
        CHECKS.outOfRange("range before state", () -> d.addTest(0, 401));
        CHECKS.due("testCount", 2, d::testCount);
        CHECKS.notThere("no test on 1", () -> d.removeTest(1));
        CHECKS.notThere("no test on -1", () -> d.removeTest(-1));
        CHECKS.notThere("no test on the greatest day", () -> d.removeTest(MAX));
        CHECKS.due("removeTest", 400, () -> d.removeTest(0));
        CHECKS.due("testCount", 1, d::testCount);
        CHECKS.due("the other test stays", 50, () -> d.removeTest(20));
        for (int day = 0; day < 10; day++) {
            d.addTest(day, 100 + day);
        }
        CHECKS.due("10 tests", 10, d::testCount);
        CHECKS.notPossible("11th test", () -> d.addTest(15, 200));
        CHECKS.outOfRange("11th test after today", () -> d.addTest(21, 200));
        CHECKS.due("the first test of 10", 100, () -> d.removeTest(0));
        CHECKS.due("room again", 0, () -> d.addTest(15, 200));
        changedSessions();
    }

    private static void changedSessions() {
        TrainingDiary d = Diaries.on(20);
        Diaries.session(d, 4, 10, 200);
        Diaries.session(d, 5, 10, 200);
        Diaries.session(d, 9, 10, 200);
        Diaries.session(d, 9, 10, 0);
        Diaries.session(d, 9);
        Diaries.session(d, 10, 10, 200);
        CHECKS.due("all that lie on it or after it", 3, () -> d.addTest(5, 400));
        CHECKS.due("only up to the next test, as 400 stays in force", 0, () -> d.addTest(8, 400));
        CHECKS.due("behind the last test", 1, () -> d.addTest(10, 200));
        CHECKS.due("between tests", 1, () -> d.addTest(9, 50));
        TrainingDiary same = Diaries.on(3);
        Diaries.session(same, 1, 10, 200);
        same.setWeight(1, 5);
        CHECKS.due("another zone of the same weight", 0, () -> same.addTest(1, 400));
        CHECKS.due("still another zone", 10, () -> same.minutesInZone(0, 1));
    }

    /** Promise 7. */
    private static void thresholds() {
        TrainingDiary d = Diaries.on(20);
        d.addTest(10, 300);
        d.addTest(5, 250);
        CHECKS.due("before the first test", 200, () -> d.thresholdOn(4));
        CHECKS.due("on the day of a test", 250, () -> d.thresholdOn(5));
        CHECKS.due("before the next test", 250, () -> d.thresholdOn(9));
        CHECKS.due("on the next test", 300, () -> d.thresholdOn(10));
        CHECKS.due("after today", 300, () -> d.thresholdOn(199));
        CHECKS.due("day 0", 200, () -> d.thresholdOn(0));
        CHECKS.outOfRange("day 200", () -> d.thresholdOn(200));
        CHECKS.outOfRange("day -1", () -> d.thresholdOn(-1));
        d.removeTest(10);
        CHECKS.due("after a removed test", 250, () -> d.thresholdOn(10));
    }

    /** Promises 8 and 9. */
    private static void bounds() {
        TrainingDiary d = new TrainingDiary();
        int[] first = {80, 90, 100, 110};
        for (int i = 0; i < 4; i++) {
            int zone = i + 2;
            CHECKS.due("first bound of " + zone, first[i], () -> d.boundOf(zone));
        }
        for (int zone : new int[] {1, 0, -1, 6, MIN, MAX}) {
            CHECKS.outOfRange("boundOf " + zone, () -> d.boundOf(zone));
            CHECKS.outOfRange("setBound " + zone, () -> d.setBound(zone, 50));
        }
        CHECKS.outOfRange("bound 0", () -> d.setBound(2, 0));
        CHECKS.outOfRange("bound 301", () -> d.setBound(5, 301));
        CHECKS.outOfRange("range before state", () -> d.setBound(4, 301));
        CHECKS.notPossible("as the next one", () -> d.setBound(2, 90));
        CHECKS.notPossible("as the one before", () -> d.setBound(3, 80));
        CHECKS.notPossible("as the next one", () -> d.setBound(3, 100));
        CHECKS.notPossible("as the one before", () -> d.setBound(5, 100));
        CHECKS.due("unchanged", 90, () -> d.boundOf(3));
        CHECKS.due("just above", 90, () -> d.setBound(3, 81));
        CHECKS.due("just below", 81, () -> d.setBound(3, 99));
        CHECKS.due("the same again", 99, () -> d.setBound(3, 99));
        CHECKS.due("lowest", 80, () -> d.setBound(2, 1));
        CHECKS.due("highest", 110, () -> d.setBound(5, 300));
        CHECKS.due("boundOf 2", 1, () -> d.boundOf(2));
        CHECKS.due("boundOf 5", 300, () -> d.boundOf(5));
        Diaries.session(d, 0, 10, 198);
        CHECKS.due("zone by the new bound", 3, () -> d.zoneOf(0, 198));
        CHECKS.due("load by the new bound", 30, () -> d.loadOf(0));
        d.setBound(3, 98);
        d.setBound(4, 99);
        CHECKS.due("load by a later bound", 50, () -> d.loadOf(0));
    }

    /** Promises 10 and 11. */
    private static void weights() {
        TrainingDiary d = new TrainingDiary();
        int[] first = {1, 2, 3, 5, 8};
        for (int i = 0; i < 5; i++) {
            int zone = i + 1;
            CHECKS.due("first weight of " + zone, first[i], () -> d.weightOf(zone));
        }
        for (int zone : new int[] {0, -1, 6, MIN, MAX}) {
            CHECKS.outOfRange("weightOf " + zone, () -> d.weightOf(zone));
            CHECKS.outOfRange("setWeight " + zone, () -> d.setWeight(zone, 1));
        }
        CHECKS.outOfRange("weight -1", () -> d.setWeight(1, -1));
        CHECKS.outOfRange("weight 101", () -> d.setWeight(1, 101));
        Diaries.session(d, 0, 10, 100, 20, 220);
        CHECKS.due("load", 10 + 160, () -> d.loadOf(0));
        CHECKS.due("weight 100", 1, () -> d.setWeight(1, 100));
        CHECKS.due("weight 0", 8, () -> d.setWeight(5, 0));
        CHECKS.due("load by the new weights", 1000, () -> d.loadOf(0));
        CHECKS.due("weightOf 1", 100, () -> d.weightOf(1));
        CHECKS.due("weightOf 5", 0, () -> d.weightOf(5));
        CHECKS.due("other weights stay", 5, () -> d.weightOf(4));
    }

    /** Promise 12. */
    private static void zones() {
        TrainingDiary d = Diaries.on(10);
        int[][] intensityAndZone = {{0, 1}, {159, 1}, {160, 2}, {179, 2}, {180, 3}, {199, 3}, {200, 4}, {219, 4}, {220, 5}, {500, 5}};
        for (int[] row : intensityAndZone) {
            CHECKS.due("zone of " + row[0], row[1], () -> d.zoneOf(0, row[0]));
        }
        CHECKS.outOfRange("intensity -1", () -> d.zoneOf(0, -1));
        CHECKS.outOfRange("intensity 501", () -> d.zoneOf(0, 501));
        CHECKS.outOfRange("day -1", () -> d.zoneOf(-1, 100));
        CHECKS.outOfRange("day 200", () -> d.zoneOf(200, 100));
        d.addTest(5, 333);
        CHECKS.due("299 of 333 is 89 percent", 2, () -> d.zoneOf(5, 299));
        CHECKS.due("300 of 333 is 90 percent", 3, () -> d.zoneOf(5, 300));
        CHECKS.due("before the test", 5, () -> d.zoneOf(4, 299));
        CHECKS.due("after today", 4, () -> d.zoneOf(199, 333));
    }

    /** Promises 13 and 18. */
    private static void sessions() {
        TrainingDiary d = Diaries.on(3);
        CHECKS.outOfRange("session before 0", () -> d.addSession(-1));
        CHECKS.outOfRange("session after today", () -> d.addSession(4));
        for (int i = 0; i < 40; i++) {
            int id = i;
            CHECKS.due("session " + id, id, () -> d.addSession(id % 4));
        }
        CHECKS.due("40 sessions", 40, d::sessionCount);
        CHECKS.notPossible("41st session", () -> d.addSession(0));
        CHECKS.outOfRange("41st session after today", () -> d.addSession(4));
        CHECKS.due("removeSession", 39, () -> d.removeSession(39));
        CHECKS.due("ids are not used again", 40, () -> d.addSession(3));
        CHECKS.notThere("the removed one is gone", () -> d.dayOf(39));
        CHECKS.due("a new one has no parts", 0, () -> d.minutesOf(40));
    }

    /** Promises 14, 15 and 21. */
    private static void parts() {
        TrainingDiary d = new TrainingDiary();
        CHECKS.notThere("no such session", () -> d.addPart(0, 0, -1));
        d.addSession(0);
        CHECKS.notThere("another id", () -> d.addPart(1, 10, 100));
        CHECKS.outOfRange("0 minutes", () -> d.addPart(0, 0, 100));
        CHECKS.outOfRange("121 minutes", () -> d.addPart(0, 121, 100));
        CHECKS.outOfRange("intensity -1", () -> d.addPart(0, 10, -1));
        CHECKS.outOfRange("intensity 501", () -> d.addPart(0, 10, 501));
        CHECKS.due("still empty", 0, () -> d.minutesOf(0));
        CHECKS.due("120 minutes of 500", 1, () -> d.addPart(0, 120, 500));
        CHECKS.due("119 minutes of 0", 2, () -> d.addPart(0, 119, 0));
        CHECKS.notPossible("241 minutes", () -> d.addPart(0, 2, 100));
        CHECKS.outOfRange("range before state", () -> d.addPart(0, 121, 100));
        CHECKS.due("240 minutes", 3, () -> d.addPart(0, 1, 100));
        CHECKS.due("length", 240, () -> d.minutesOf(0));
        CHECKS.due("clearParts", 3, () -> d.clearParts(0));
        CHECKS.due("no length", 0, () -> d.minutesOf(0));
        CHECKS.due("no load", 0, () -> d.loadOf(0));
        CHECKS.due("nothing to clear", 0, () -> d.clearParts(0));
        CHECKS.notThere("clearParts of none", () -> d.clearParts(1));
        for (int i = 1; i <= 8; i++) {
            int parts = i;
            CHECKS.due("part " + i, parts, () -> d.addPart(0, 1, 100));
        }
        CHECKS.notPossible("9th part", () -> d.addPart(0, 1, 100));
        CHECKS.outOfRange("9th part, out of range", () -> d.addPart(0, 1, 501));
        CHECKS.due("8 parts", 8, () -> d.minutesOf(0));
        CHECKS.notThere("minutesOf of none", () -> d.minutesOf(-1));
    }

    /** Promises 16, 17, 20. */
    private static void sessionChanges() {
        TrainingDiary d = Diaries.on(10);
        Diaries.session(d, 2, 10, 200);
        Diaries.session(d, 5, 10, 100);
        CHECKS.notThere("move none", () -> d.moveSession(2, 11));
        CHECKS.outOfRange("move after today", () -> d.moveSession(0, 11));
        CHECKS.outOfRange("move before 0", () -> d.moveSession(0, -1));
        CHECKS.due("unchanged", 2, () -> d.dayOf(0));
        CHECKS.due("move", 2, () -> d.moveSession(0, 10));
        CHECKS.due("moved", 10, () -> d.dayOf(0));
        CHECKS.due("the other stays", 5, () -> d.dayOf(1));
        CHECKS.due("move to its own day", 10, () -> d.moveSession(0, 10));
        CHECKS.due("move to the day 0", 10, () -> d.moveSession(0, 0));
        d.addTest(7, 100);
        CHECKS.due("load before the test", 50, () -> d.loadOf(0));
        d.moveSession(0, 7);
        CHECKS.due("load by the threshold of the new day", 80, () -> d.loadOf(0));
        CHECKS.notThere("remove none", () -> d.removeSession(2));
        CHECKS.due("remove", 1, () -> d.removeSession(0));
        CHECKS.notThere("remove again", () -> d.removeSession(0));
        CHECKS.notThere("dayOf a removed one", () -> d.dayOf(0));
        CHECKS.due("the other stays", 10, () -> d.loadOf(1));
        CHECKS.due("remove the last", 0, () -> d.removeSession(1));
        CHECKS.due("none left", 0, d::sessionCount);
    }

    /** Promise 19. */
    private static void orderOfSessions() {
        TrainingDiary d = Diaries.on(10);
        for (int day : new int[] {5, 3, 5, 10, 3}) {
            d.addSession(day);
        }
        order(d, 1, 4, 0, 2, 3);
        CHECKS.noSuchIndex("position -1", () -> d.sessionAt(-1));
        CHECKS.noSuchIndex("position 5", () -> d.sessionAt(5));
        CHECKS.noSuchIndex("greatest position", () -> d.sessionAt(MAX));
        d.moveSession(3, 3);
        order(d, 1, 3, 4, 0, 2);
        d.moveSession(1, 5);
        order(d, 3, 4, 0, 1, 2);
        d.removeSession(0);
        order(d, 3, 4, 1, 2);
        CHECKS.noSuchIndex("position 4", () -> d.sessionAt(4));
        d.addSession(0);
        order(d, 5, 3, 4, 1, 2);
    }

    private static void order(TrainingDiary d, int... ids) {
        for (int i = 0; i < ids.length; i++) {
            int position = i;
            CHECKS.due("sessionAt " + i, ids[i], () -> d.sessionAt(position));
        }
    }

    /** Promises 22 to 24. */
    private static void minutesAndLoads() {
        TrainingDiary d = Diaries.on(4);
        Diaries.session(d, 3, 10, 100, 20, 170, 30, 190, 40, 210, 50, 230, 5, 0, 1, 220);
        Diaries.session(d, 3, 7, 200);
        Diaries.session(d, 4);
        int[] minutes = {15, 20, 30, 40, 51};
        for (int i = 0; i < 5; i++) {
            int zone = i + 1;
            CHECKS.due("minutes in zone " + zone, minutes[i], () -> d.minutesInZone(0, zone));
        }
        CHECKS.notThere("no such session", () -> d.minutesInZone(3, 0));
        CHECKS.outOfRange("zone 0", () -> d.minutesInZone(0, 0));
        CHECKS.outOfRange("zone 6", () -> d.minutesInZone(0, 6));
        CHECKS.due("length", 156, () -> d.minutesOf(0));
        CHECKS.due("load", 15 + 40 + 90 + 200 + 408, () -> d.loadOf(0));
        CHECKS.due("load without parts", 0, () -> d.loadOf(2));
        CHECKS.notThere("load of none", () -> d.loadOf(3));
        CHECKS.due("load of a day", 753 + 35, () -> d.loadOn(3));
        CHECKS.due("load of a day without parts", 0, () -> d.loadOn(4));
        CHECKS.due("load of the day 0", 0, () -> d.loadOn(0));
        CHECKS.outOfRange("load after today", () -> d.loadOn(5));
        CHECKS.outOfRange("load before 0", () -> d.loadOn(-1));
        TrainingDiary most = new TrainingDiary();
        most.setWeight(5, 100);
        for (int i = 0; i < 40; i++) {
            Diaries.session(most, 0, 120, 500, 120, 500);
        }
        CHECKS.due("greatest load", 960000, () -> most.loadOn(0));
        CHECKS.due("greatest fitness", 960000000 / 42, () -> most.fitnessOn(0));
        CHECKS.due("greatest fatigue", 960000000 / 7, () -> most.fatigueOn(0));
        CHECKS.due("greatest mean", 960000.0, most::meanLoad);
    }

    /** Promises 25 and 26. */
    private static void shares() {
        TrainingDiary d = Diaries.on(2);
        CHECKS.outOfRange("zone 0 without minutes", () -> d.zoneShare(0));
        CHECKS.outOfRange("zone 6", () -> d.zoneShare(6));
        CHECKS.due("no minutes", "throws.ArithmeticException", () -> d.zoneShare(1));
        d.addSession(0);
        CHECKS.due("a session without parts", "throws.ArithmeticException", () -> d.zoneShare(1));
        d.addPart(0, 10, 100);
        Diaries.session(d, 2, 20, 200);
        CHECKS.due("zone 1", 10.0f / 30.0f, () -> d.zoneShare(1));
        CHECKS.due("zone 4", 20.0f / 30.0f, () -> d.zoneShare(4));
        CHECKS.due("zone 5", 0.0f, () -> d.zoneShare(5));
        CHECKS.due("mean of three days", 110.0 / 3.0, d::meanLoad);
        d.pass(1);
        CHECKS.due("mean of four days", 27.5, d::meanLoad);
        d.clearParts(0);
        CHECKS.due("all in zone 4", 1.0f, () -> d.zoneShare(4));
    }

    /** Promises 27 to 30. */
    private static void fitnessAndFatigue() {
        TrainingDiary d = Diaries.on(5);
        Diaries.session(d, 1, 62, 200);
        // The load of the day 1 is 310; the rest decays toward 0 by whole numbers.
        int[] fitness = {0, 7380, 7205, 7034, 6867, 6704};
        int[] fatigue = {0, 44285, 37959, 32537, 27889, 23905};
        for (int i = 5; i >= 0; i--) {
            int day = i;
            CHECKS.due("fitnessOn " + day, fitness[day], () -> d.fitnessOn(day));
            CHECKS.due("fitnessFromStart " + day, fitness[day], () -> d.fitnessFromStart(day));
            CHECKS.due("fatigueOn " + day, fatigue[day], () -> d.fatigueOn(day));
            CHECKS.due("fatigueFromStart " + day, fatigue[day], () -> d.fatigueFromStart(day));
        }
        for (int day : new int[] {-1, 6, MIN, MAX}) {
            CHECKS.outOfRange("fitnessOn " + day, () -> d.fitnessOn(day));
            CHECKS.outOfRange("fitnessFromStart " + day, () -> d.fitnessFromStart(day));
            CHECKS.outOfRange("fatigueOn " + day, () -> d.fatigueOn(day));
            CHECKS.outOfRange("fatigueFromStart " + day, () -> d.fatigueFromStart(day));
            CHECKS.outOfRange("formOn " + day, () -> d.formOn(day));
        }
        TrainingDiary end = Diaries.on(199);
        Diaries.session(end, 199, 42, 100);
        CHECKS.due("fitness of the last day", 1000, () -> end.fitnessOn(199));
        CHECKS.due("fatigue of the last day", 6000, () -> end.fatigueOn(199));
    }

    /** Promises 27 and 29: what was known is found anew behind every change. */
    private static void changesBehindKnownDays() {
        TrainingDiary d = Diaries.on(60);
        Diaries.session(d, 30, 60, 200);
        Diaries.session(d, 40, 60, 150);
        same(d, "at first");
        d.addPart(0, 10, 300);
        same(d, "addPart");
        d.addTest(40, 100);
        same(d, "addTest");
        d.removeTest(40);
        same(d, "removeTest");
        d.moveSession(1, 10);
        same(d, "moveSession to an earlier day");
        d.moveSession(1, 50);
        same(d, "moveSession to a later day");
        d.setBound(5, 160);
        same(d, "setBound");
        d.setWeight(1, 50);
        same(d, "setWeight");
        d.undo();
        same(d, "undo");
        d.save();
        d.clearParts(1);
        same(d, "clearParts");
        d.restore();
        same(d, "restore");
        d.removeSession(0);
        same(d, "removeSession");
        d.pass(5);
        same(d, "pass");
        d.undo();
        same(d, "undo of pass");
    }

    private static void same(TrainingDiary d, String after) {
        int today = d.today();
        CHECKS.due("fitness after " + after, d.fitnessFromStart(today), () -> d.fitnessOn(today));
        CHECKS.due("fatigue after " + after, d.fatigueFromStart(today), () -> d.fatigueOn(today));
        CHECKS.due("some fitness after " + after, true, () -> d.fitnessOn(today) > 0);
        int before = today - 1;
        CHECKS.due("form after " + after, d.fitnessFromStart(before) - d.fatigueFromStart(before), () -> d.formOn(today));
    }

    /** Promises 31 and 32. */
    private static void form() {
        TrainingDiary d = Diaries.on(3);
        Diaries.session(d, 1, 62, 200);
        CHECKS.due("form on the day 0", 0, () -> d.formOn(0));
        CHECKS.due("form on the day of the session", 0, () -> d.formOn(1));
        CHECKS.due("form on the day after", 7380 - 44285, () -> d.formOn(2));
        CHECKS.due("form two days after", 7205 - 37959, () -> d.formOn(3));
        CHECKS.due("the first of several best days", 0, d::bestFormDay);
        d.pass(30);
        int best = 0;
        for (int day = 1; day <= 33; day++) {
            best = d.formOn(day) > d.formOn(best) ? day : best;
        }
        CHECKS.due("a later best day", best, d::bestFormDay);
        CHECKS.due("it is not the day 0", true, () -> d.bestFormDay() > 1);
        TrainingDiary today = Diaries.on(15);
        Diaries.session(today, 0, 62, 200);
        CHECKS.due("today is the best day", 15, today::bestFormDay);
        CHECKS.due("with a form above 0", true, () -> today.formOn(15) > 0);
        TrainingDiary little = Diaries.on(15);
        Diaries.session(little, 0, 6, 0);
        Diaries.session(little, 1, 2, 0);
        CHECKS.due("a form of 1", 1, () -> little.formOn(15));
        CHECKS.due("is better than 0", 15, little::bestFormDay);
    }

    /** Each call is the first one that needs loads, so that it can't live on what an earlier one has found. */
    private static void firstCalls() {
        first("loadOn", 310, d -> d.loadOn(0));
        first("meanLoad", 310.0 / 7.0, d -> d.meanLoad());
        first("zoneShare", 1.0f, d -> d.zoneShare(4));
        first("fitnessOn", 7380, d -> d.fitnessOn(0));
        first("fitnessFromStart", 7380, d -> d.fitnessFromStart(0));
        first("fatigueOn", 44285, d -> d.fatigueOn(0));
        first("fatigueFromStart", 44285, d -> d.fatigueFromStart(0));
        first("formOn", 7380 - 44285, d -> d.formOn(1));
        first("bestFormDay", 0, d -> d.bestFormDay());
        first("daysToForm", 9, d -> d.daysToForm(0));
        first("bestDays", 310, d -> d.bestDays(1));
        first("bestDaysByTrying", 310, d -> d.bestDaysByTrying(1));
        first("bestDaysStart", 0, d -> d.bestDaysStart(1));
        first("bestEffort", 200, d -> d.bestEffort(1));
        first("bestEffortByTrying", 200, d -> d.bestEffortByTrying(1));
        first("bestEffortSession", 0, d -> d.bestEffortSession(1));
        first("dueEntry", 2, d -> d.dueEntry());
        first("missedDays", 5, d -> d.missedDays());
        first("droppedEntries", 1, d -> d.droppedEntries());
        first("planEnd", 6, d -> d.planEnd());
        first("isPlanOver", false, d -> d.isPlanOver());
        first("writeWeek", 13, d -> d.writeWeek(0));
    }

    private static void first(String what, Object due, Function<TrainingDiary, Object> call) {
        TrainingDiary d = new TrainingDiary();
        d.startPlan();
        d.addTarget(620);
        d.addTarget(1);
        d.addTarget(1);
        Diaries.session(d, 0, 62, 200);
        d.pass(6);
        CHECKS.due("first call " + what, due, () -> call.apply(d));
    }

    /** Promise 33. */
    private static void waitForForm() {
        TrainingDiary d = new TrainingDiary();
        CHECKS.due("form 0 on the day 0", 0, () -> d.daysToForm(0));
        CHECKS.due("lowest form", 0, () -> d.daysToForm(-100000));
        CHECKS.outOfRange("form below", () -> d.daysToForm(-100001));
        CHECKS.outOfRange("form above", () -> d.daysToForm(100001));
        CHECKS.notThere("highest form", () -> d.daysToForm(100000));
        CHECKS.notThere("without load", () -> d.daysToForm(1));
        Diaries.session(d, 0, 30, 220, 20, 240);
        CHECKS.due("form of today is before the session", 0, () -> d.daysToForm(0));
        d.pass(1);
        int load = d.loadOn(0);
        CHECKS.due("load", 400, () -> d.loadOn(0));
        int fitness = 1000 * load / 42;
        int fatigue = 1000 * load / 7;
        int days = 0;
        while (fitness < fatigue) {
            fitness -= fitness / 42;
            fatigue -= fatigue / 7;
            days++;
        }
        CHECKS.due("days until the form is 0", days, () -> d.daysToForm(0));
        CHECKS.due("form of today", 0, () -> d.daysToForm(9523 - 57142));
        CHECKS.due("a little more", 1, () -> d.daysToForm(9523 - 57142 + 1));
        Diaries.session(d, 1, 60, 220);
        CHECKS.due("the session of today counts tomorrow", true, () -> d.daysToForm(0) > 14);
        waitForGreatestForm();
    }

    /** Behind a load the form rises to its greatest value and then falls, so that no later day reaches more. */
    private static void waitForGreatestForm() {
        TrainingDiary d = new TrainingDiary();
        d.setWeight(5, 20);
        Diaries.session(d, 0, 100, 220, 100, 220);
        int fitness = 4000000 / 42;
        int fatigue = 4000000 / 7;
        int greatest = fitness - fatigue;
        int firstDays = 1;
        for (int days = 2; days <= 200; days++) {
            fitness -= fitness / 42;
            fatigue -= fatigue / 7;
            if (fitness - fatigue > greatest) {
                greatest = fitness - fatigue;
                firstDays = days;
            }
        }
        int form = greatest;
        CHECKS.due("days until the greatest form", firstDays, () -> d.daysToForm(form));
        CHECKS.due("these are many days", true, () -> d.daysToForm(form) > 20);
        CHECKS.notThere("more than the greatest form", () -> d.daysToForm(form + 1));
        int lastToday = d.pass(30);
        CHECKS.due("it has been better", "throws.NoSuchElementException", () -> d.daysToForm(form));
        CHECKS.due("the form of today", 0, () -> d.daysToForm(d.formOn(lastToday)));
    }

    /** Promises 34 to 36. */
    private static void recordsOfDays() {
        TrainingDiary d = Diaries.on(9);
        Diaries.session(d, 9, 60, 200);
        Diaries.session(d, 2, 60, 200);
        Diaries.session(d, 5, 10, 200);
        record(d, 8, 650, 2);
        record(d, 7, 350, 0);
        record(d, 1, 300, 2);
        record(d, 3, 300, 0);
        record(d, 4, 350, 2);
        record(d, 5, 350, 1);
        record(d, 10, 650, 0);
        noRecord(d, 11);
        noRecord(d, 60);
        for (int length : new int[] {0, -1, 61, MIN, MAX}) {
            CHECKS.outOfRange("bestDays " + length, () -> d.bestDays(length));
            CHECKS.outOfRange("bestDaysByTrying " + length, () -> d.bestDaysByTrying(length));
            CHECKS.outOfRange("bestDaysStart " + length, () -> d.bestDaysStart(length));
        }
        TrainingDiary end = Diaries.on(199);
        record(end, 60, 0, 0);
        Diaries.session(end, 199, 1, 200);
        record(end, 60, 5, 140);
        record(end, 1, 5, 199);
        TrainingDiary first = Diaries.on(58);
        noRecord(first, 60);
        first.pass(1);
        record(first, 60, 0, 0);
    }

    private static void record(TrainingDiary d, int length, int load, int start) {
        CHECKS.due("bestDays " + length, load, () -> d.bestDays(length));
        CHECKS.due("bestDaysByTrying " + length, load, () -> d.bestDaysByTrying(length));
        CHECKS.due("bestDaysStart " + length, start, () -> d.bestDaysStart(length));
    }

    private static void noRecord(TrainingDiary d, int length) {
        CHECKS.notThere("bestDays " + length, () -> d.bestDays(length));
        CHECKS.notThere("bestDaysByTrying " + length, () -> d.bestDaysByTrying(length));
        CHECKS.notThere("bestDaysStart " + length, () -> d.bestDaysStart(length));
    }

    /** Promises 37 to 39. */
    private static void recordsOfMinutes() {
        TrainingDiary d = Diaries.on(5);
        noEffort(d, 1);
        d.addSession(5);
        noEffort(d, 1);
        d.addPart(0, 10, 0);
        effort(d, 10, 0, 0);
        noEffort(d, 11);
        Diaries.session(d, 4, 5, 100, 5, 300, 5, 200);
        effort(d, 1, 300, 1);
        effort(d, 5, 1500, 1);
        effort(d, 7, 1900, 1);
        effort(d, 10, 2500, 1);
        effort(d, 11, 2600, 1);
        effort(d, 15, 3000, 1);
        noEffort(d, 16);
        Diaries.session(d, 4, 5, 300);
        effort(d, 5, 1500, 1);
        Diaries.session(d, 2, 5, 300);
        effort(d, 5, 1500, 3);
        effort(d, 6, 1700, 1);
        d.moveSession(3, 5);
        effort(d, 5, 1500, 1);
        Diaries.session(d, 0, 120, 500, 120, 1);
        effort(d, 240, 60120, 4);
        effort(d, 121, 60001, 4);
        for (int minutes : new int[] {0, -1, 241, MIN, MAX}) {
            CHECKS.outOfRange("bestEffort " + minutes, () -> d.bestEffort(minutes));
            CHECKS.outOfRange("bestEffortByTrying " + minutes, () -> d.bestEffortByTrying(minutes));
            CHECKS.outOfRange("bestEffortSession " + minutes, () -> d.bestEffortSession(minutes));
        }
    }

    private static void effort(TrainingDiary d, int minutes, int effort, int id) {
        CHECKS.due("bestEffort " + minutes, effort, () -> d.bestEffort(minutes));
        CHECKS.due("bestEffortByTrying " + minutes, effort, () -> d.bestEffortByTrying(minutes));
        CHECKS.due("bestEffortSession " + minutes, id, () -> d.bestEffortSession(minutes));
    }

    private static void noEffort(TrainingDiary d, int minutes) {
        CHECKS.notThere("bestEffort " + minutes, () -> d.bestEffort(minutes));
        CHECKS.notThere("bestEffortByTrying " + minutes, () -> d.bestEffortByTrying(minutes));
        CHECKS.notThere("bestEffortSession " + minutes, () -> d.bestEffortSession(minutes));
    }

    /** Promises 40 to 47. */
    private static void plan() {
        TrainingDiary d = Diaries.on(2);
        CHECKS.due("startPlan", 0, d::startPlan);
        CHECKS.due("a plan without entries is over", true, d::isPlanOver);
        CHECKS.notThere("nothing is due", d::dueEntry);
        CHECKS.notThere("it has no end", d::planEnd);
        d.addTarget(100);
        d.addTarget(101);
        d.addTarget(80);
        planIs(d, 0, 0, 0, 4);
        Diaries.session(d, 2, 10, 200);
        planIs(d, 0, 0, 0, 4);
        d.pass(1);
        planIs(d, 1, 0, 0, 4);
        Diaries.session(d, 3, 10, 200);
        d.pass(1);
        planIs(d, 1, 1, 0, 5);
        d.pass(1);
        planIs(d, 1, 2, 0, 6);
        d.pass(1);
        planIs(d, 2, 3, 1, 6);
        d.pass(2);
        planIs(d, 2, 5, 1, 8);
        Diaries.session(d, 8, 8, 200);
        planIs(d, 2, 5, 1, 8);
        d.pass(1);
        planOver(d, 5, 1);
        d.pass(30);
        planOver(d, 5, 1);
        d.moveSession(2, 7);
        planOver(d, 4, 1);
        d.setWeight(4, 0);
        planOver(d, 9, 3);
        d.undo();
        planOver(d, 4, 1);
        CHECKS.due("a further plan", 3, d::startPlan);
        CHECKS.noSuchIndex("without entries", () -> d.targetAt(0));
        planOver(d, 0, 0);
    }

    private static void planIs(TrainingDiary d, int due, int missed, int dropped, int end) {
        CHECKS.due("dueEntry", due, d::dueEntry);
        CHECKS.due("missedDays", missed, d::missedDays);
        CHECKS.due("droppedEntries", dropped, d::droppedEntries);
        CHECKS.due("planEnd", end, d::planEnd);
        CHECKS.due("isPlanOver", false, d::isPlanOver);
    }

    private static void planOver(TrainingDiary d, int missed, int dropped) {
        CHECKS.notThere("dueEntry", d::dueEntry);
        CHECKS.due("missedDays", missed, d::missedDays);
        CHECKS.due("droppedEntries", dropped, d::droppedEntries);
        CHECKS.notThere("planEnd", d::planEnd);
        CHECKS.due("isPlanOver", true, d::isPlanOver);
    }

    /** Promises 40 to 42. */
    private static void planLimits() {
        TrainingDiary d = new TrainingDiary();
        CHECKS.notPossible("target without a plan", () -> d.addTarget(0));
        CHECKS.outOfRange("range before state", () -> d.addTarget(-1));
        d.startPlan();
        CHECKS.outOfRange("target -1", () -> d.addTarget(-1));
        CHECKS.outOfRange("target 20001", () -> d.addTarget(20001));
        CHECKS.due("target 0", 1, () -> d.addTarget(0));
        CHECKS.due("target 20000", 2, () -> d.addTarget(20000));
        for (int i = 3; i <= 28; i++) {
            int entries = i;
            CHECKS.due("target " + entries, entries, () -> d.addTarget(entries));
        }
        CHECKS.notPossible("29th target", () -> d.addTarget(1));
        CHECKS.due("targetAt 0", 0, () -> d.targetAt(0));
        CHECKS.due("targetAt 1", 20000, () -> d.targetAt(1));
        CHECKS.due("targetAt 27", 28, () -> d.targetAt(27));
        CHECKS.noSuchIndex("targetAt 28", () -> d.targetAt(28));
        CHECKS.noSuchIndex("targetAt -1", () -> d.targetAt(-1));
        CHECKS.due("startPlan", 28, d::startPlan);
        CHECKS.noSuchIndex("targetAt 0 of the new plan", () -> d.targetAt(0));
        d.addTarget(7);
        d.pass(1);
        CHECKS.notPossible("target on a later day", () -> d.addTarget(1));
        CHECKS.outOfRange("range before state", () -> d.addTarget(20001));
        CHECKS.due("targetAt on a later day", 7, () -> d.targetAt(0));
        d.undo();
        CHECKS.due("on its first day again", 2, () -> d.addTarget(1));
    }

    /** Promise 46. */
    private static void planEnds() {
        TrainingDiary d = Diaries.on(199);
        d.startPlan();
        for (int i = 0; i < 28; i++) {
            d.addTarget(i);
        }
        CHECKS.due("end after the last day", 226, d::planEnd);
        TrainingDiary rests = new TrainingDiary();
        rests.startPlan();
        rests.addTarget(0);
        rests.addTarget(0);
        rests.pass(1);
        CHECKS.due("a target of 0 is never missed", 1, rests::planEnd);
        rests.pass(1);
        planOver(rests, 0, 0);
    }

    /** A late session changes the course, and an entry is counted anew after one that was met. */
    private static void planOfThePast() {
        TrainingDiary d = new TrainingDiary();
        d.startPlan();
        d.addTarget(10);
        d.addTarget(10);
        d.addTarget(10);
        d.pass(5);
        planIs(d, 1, 5, 1, 6);
        Diaries.session(d, 2, 1, 200);
        planIs(d, 1, 4, 0, 6);
        Diaries.session(d, 3, 1, 199);
        planIs(d, 1, 4, 0, 6);
        Diaries.session(d, 3, 1, 170);
        planIs(d, 2, 3, 0, 5);
        d.addTest(3, 400);
        planIs(d, 1, 4, 0, 6);
        d.removeTest(3);
        planIs(d, 2, 3, 0, 5);
        d.setBound(4, 99);
        planIs(d, 2, 3, 0, 5);
        d.setWeight(2, 0);
        planIs(d, 2, 3, 0, 5);
        d.setBound(4, 100);
        planIs(d, 1, 4, 0, 6);
    }

    /** Promises 48 and 49. */
    private static void week() {
        TrainingDiary d = Diaries.on(9);
        Diaries.session(d, 0, 10, 170);
        Diaries.session(d, 2, 10, 190, 10, 100, 10, 150);
        Diaries.session(d, 2, 11, 190);
        d.addSession(3);
        Diaries.session(d, 5, 10, 230, 10, 210);
        Diaries.session(d, 6, 10, 230, 1, 210);
        d.addSession(6);
        CHECKS.due("length", 13, () -> d.writeWeek(0));
        CHECKS.due("week from 0", "2 . 3 0 . 4 5", () -> Diaries.line(d, 13));
        CHECKS.noSuchIndex("lineAt -1", () -> d.lineAt(-1));
        CHECKS.noSuchIndex("lineAt 13", () -> d.lineAt(13));
        CHECKS.outOfRange("week before 0", () -> d.writeWeek(-1));
        CHECKS.outOfRange("week after today", () -> d.writeWeek(10));
        CHECKS.due("the line stays", "2 . 3 0 . 4 5", () -> Diaries.line(d, 13));
        CHECKS.due("week from 5", "4 5 . . . - -", () -> Diaries.week(d, 5));
        CHECKS.due("week from today", ". - - - - - -", () -> Diaries.week(d, 9));
        TrainingDiary end = Diaries.on(199);
        Diaries.session(end, 199, 1, 100);
        CHECKS.due("week of the last day", "1 - - - - - -", () -> Diaries.week(end, 199));
        end.undo();
        end.undo();
        CHECKS.due("the line is not undone", "1 - - - - - -", () -> Diaries.line(end, 13));
        CHECKS.due("it changes when it is written", ". - - - - - -", () -> Diaries.week(end, 199));
        end.save();
        end.addSession(199);
        Diaries.week(end, 199);
        end.restore();
        CHECKS.due("the line is not restored", "0 - - - - - -", () -> Diaries.line(end, 13));
    }

    /** Promise 50. */
    private static void undo() {
        TrainingDiary d = new TrainingDiary();
        CHECKS.notPossible("nothing to undo", d::undo);
        for (int i = 0; i < 8; i++) {
            d.pass(1);
        }
        for (int left = 5; left >= 0; left--) {
            int still = left;
            CHECKS.due("undo", still, d::undo);
            CHECKS.due("today", 2 + still, d::today);
        }
        CHECKS.notPossible("no more than 6", d::undo);
        d.pass(1);
        d.pass(1);
        CHECKS.due("one of two", 1, d::undo);
        d.pass(5);
        CHECKS.due("one of two again", 1, d::undo);
        CHECKS.due("today", 3, d::today);
        CHECKS.notThere("a failed call", () -> d.removeTest(0));
        d.save();
        d.meanLoad();
        d.writeWeek(0);
        CHECKS.due("is no modification", 0, d::undo);
        CHECKS.due("today", 2, d::today);
        d.setWeight(1, 1);
        d.setBound(2, 80);
        CHECKS.due("one that changes nothing counts", 1, d::undo);
    }

    /** Promises 51 and 52. */
    private static void snapshots() {
        CHECKS.notPossible("no snapshot", () -> Diaries.on(5).restore());
        String due = Diaries.picture(restored());
        TrainingDiary d = restored();
        d.addPart(1, 10, 200);
        d.addTest(3, 100);
        d.setBound(2, 70);
        d.setWeight(2, 70);
        d.startPlan();
        d.addTarget(70);
        d.removeSession(0);
        d.addSession(3);
        d.pass(9);
        CHECKS.due("restore", 2, d::restore);
        CHECKS.notPossible("nothing can be undone", d::undo);
        CHECKS.due("the next id is as it was", 2, () -> d.addSession(0));
        CHECKS.due("one can be undone", 0, d::undo);
        d.addSession(0);
        CHECKS.due("the snapshot is kept", 2, d::restore);
        CHECKS.due("all is as it was", due, () -> Diaries.picture(d));
        laterSnapshot();
    }

    private static TrainingDiary restored() {
        TrainingDiary d = Diaries.on(5);
        Diaries.session(d, 1, 10, 200);
        Diaries.session(d, 2, 10, 200);
        CHECKS.due("save", 2, d::save);
        CHECKS.due("save keeps what can be undone", 4, d::undo);
        CHECKS.due("restore what was undone", 2, d::restore);
        return d;
    }

    private static void laterSnapshot() {
        TrainingDiary d = restored();
        d.removeSession(0);
        d.removeSession(1);
        CHECKS.due("a later snapshot", 0, d::save);
        d.undo();
        CHECKS.due("undo does not touch it", 0, d::restore);
        CHECKS.due("no sessions", 0, d::sessionCount);
    }
}
