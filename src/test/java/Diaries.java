/** Diaries that tests begin with, and all that can be told of one. */
final class Diaries {
    private Diaries() {
    }

    static TrainingDiary on(int day) {
        TrainingDiary diary = new TrainingDiary();
        int today = 0;
        while (today < day) {
            today = diary.pass(Math.min(30, day - today));
        }
        return diary;
    }

    static int session(TrainingDiary diary, int day, int... minutesAndIntensities) {
        int id = diary.addSession(day);
        for (int i = 0; i + 1 < minutesAndIntensities.length; i += 2) {
            diary.addPart(id, minutesAndIntensities[i], minutesAndIntensities[i + 1]);
        }
        return id;
    }

    static void targets(TrainingDiary diary, int... targets) {
        for (int target : targets) {
            diary.addTarget(target);
        }
    }

    /** Something of everything: tests, sessions, a plan under way, a line, a snapshot and 6 modifications to undo. */
    static TrainingDiary rich() {
        TrainingDiary diary = new TrainingDiary();
        session(diary, 0, 30, 150, 20, 190);
        diary.pass(4);
        diary.addTest(4, 250);
        session(diary, 4, 10, 250, 10, 0);
        diary.save();
        diary.pass(4);
        diary.setBound(3, 95);
        diary.setWeight(1, 2);
        session(diary, 8);
        session(diary, 2, 5, 300);
        diary.removeSession(3);
        diary.writeWeek(2);
        diary.startPlan();
        targets(diary, 50, 60, 70);
        diary.pass(3);
        diary.addTest(9, 150);
        diary.moveSession(0, 10);
        return diary;
    }

    /** As much of everything as there can be, on the last day. */
    static TrainingDiary full() {
        TrainingDiary diary = on(199);
        for (int i = 0; i < 10; i++) {
            diary.addTest(20 * i, 50 + 35 * i);
        }
        for (int i = 0; i < 40; i++) {
            diary.addSession(5 * i);
        }
        for (int i = 0; i < 8; i++) {
            diary.addPart(0, 30, 60 * i);
        }
        diary.startPlan();
        for (int i = 0; i < 28; i++) {
            diary.addTarget(700 * i);
        }
        return diary;
    }

    static String week(TrainingDiary diary, int day) {
        return line(diary, diary.writeWeek(day));
    }

    static String line(TrainingDiary diary, int length) {
        StringBuilder line = new StringBuilder();
        for (int i = 0; i < length; i++) {
            line.append(diary.lineAt(i));
        }
        return line.toString();
    }

    /**
     * All that a diary tells, what undo and restore bring back among it. It takes some 400 calls and uses the diary
     * up: a diary answers only 512 calls as promised.
     */
    static String picture(TrainingDiary diary) {
        StringBuilder all = new StringBuilder();
        tellZones(all, diary);
        tellDays(all, diary);
        tellSessions(all, diary);
        tellRecords(all, diary);
        tellPlan(all, diary);
        tell(all, "line");
        for (int i = -1; i <= 13; i++) {
            int index = i;
            tell(all, Checks.told(() -> diary.lineAt(index)));
        }
        tellUndo(all, diary);
        tell(all, "restore", Checks.told(diary::restore));
        tellShortly(all, diary);
        return all.toString();
    }

    private static void tell(StringBuilder all, Object... told) {
        for (Object one : told) {
            all.append(one).append(' ');
        }
    }

    private static void tellZones(StringBuilder all, TrainingDiary diary) {
        tell(all, "bounds");
        for (int zone = 2; zone <= 5; zone++) {
            tell(all, diary.boundOf(zone));
        }
        tell(all, "weights");
        for (int zone = 1; zone <= 5; zone++) {
            int z = zone;
            tell(all, diary.weightOf(zone), Checks.told(() -> diary.zoneShare(z)));
        }
    }

    private static void tellDays(StringBuilder all, TrainingDiary diary) {
        int today = diary.today();
        tell(all, "today", today, "tests", diary.testCount());
        for (int day = 0; day <= Math.min(today, 12); day++) {
            tell(all, diary.thresholdOn(day), diary.loadOn(day), diary.fitnessOn(day), diary.fatigueOn(day), diary.formOn(day));
        }
        for (int day = 20; day < 200; day += 20) {
            tell(all, diary.thresholdOn(day));
        }
        tell(all, diary.fitnessOn(today), diary.fatigueOn(today), diary.fitnessFromStart(today), diary.fatigueFromStart(today));
        tell(all, diary.meanLoad(), diary.bestFormDay(), Checks.told(() -> diary.daysToForm(1)));
    }

    private static void tellSessions(StringBuilder all, TrainingDiary diary) {
        int count = diary.sessionCount();
        tell(all, "sessions", count);
        for (int i = 0; i < count; i++) {
            int id = diary.sessionAt(i);
            tell(all, id, diary.dayOf(id), diary.minutesOf(id));
            for (int zone = 1; zone <= 5 && i < 5; zone++) {
                tell(all, diary.minutesInZone(id, zone));
            }
        }
    }

    private static void tellRecords(StringBuilder all, TrainingDiary diary) {
        tell(all, "records");
        for (int i = 1; i <= 21; i += 10) {
            int length = i;
            tell(all, Checks.told(() -> diary.bestDays(length)), Checks.told(() -> diary.bestDaysStart(length)));
            tell(all, Checks.told(() -> diary.bestEffort(length)), Checks.told(() -> diary.bestEffortSession(length)));
        }
    }

    private static void tellPlan(StringBuilder all, TrainingDiary diary) {
        tell(all, "plan", diary.isPlanOver(), diary.missedDays(), diary.droppedEntries());
        tell(all, Checks.told(diary::dueEntry), Checks.told(diary::planEnd));
        for (int i = 0; i <= 28; i++) {
            int entry = i;
            String target = Checks.told(() -> diary.targetAt(entry));
            tell(all, target);
            if (target.startsWith("throws.")) {
                break;
            }
        }
    }

    private static void tellUndo(StringBuilder all, TrainingDiary diary) {
        for (int i = 0; i < 7; i++) {
            tell(all, "undo", Checks.told(diary::undo));
            tellShortly(all, diary);
        }
        tell(all, "next", Checks.told(() -> diary.addSession(0)));
    }

    private static void tellShortly(StringBuilder all, TrainingDiary diary) {
        tell(all, diary.today(), diary.testCount(), diary.sessionCount(), diary.meanLoad());
        tell(all, diary.fitnessOn(0), diary.isPlanOver(), Checks.told(() -> diary.targetAt(1)));
    }
}
