/** Records: the edges of the promises 34 to 39. */
final class RecordEdges extends Edges {
    private static final String LENGTH = "- `length`: the number of days, 1 to 60";
    private static final String NO_LENGTH = "Throws `IllegalArgumentException` if the number of days is out of range";
    private static final String TOO_FEW_DAYS = "Throws `NoSuchElementException` if today is less than the number of days minus 1";
    private static final String MINUTES = "- `minutes`: the number of minutes, 1 to 240";
    private static final String NO_MINUTES = "Throws `IllegalArgumentException` if the number of minutes is out of range";
    private static final String TOO_SHORT = "Throws `NoSuchElementException` if no session is so long";

    RecordEdges(Sentences sentences, Checks checks) {
        super(sentences, checks);
    }

    @Override
    void test() {
        bestDays(34, TrainingDiary::bestDays);
        bestDays(35, TrainingDiary::bestDaysByTrying);
        noBestDays(34, TrainingDiary::bestDays);
        noBestDays(35, TrainingDiary::bestDaysByTrying);
        noBestDays(36, TrainingDiary::bestDaysStart);
        bestDaysStart();
        bestEffort(37, TrainingDiary::bestEffort);
        bestEffort(38, TrainingDiary::bestEffortByTrying);
        noBestEffort(37, TrainingDiary::bestEffort);
        noBestEffort(38, TrainingDiary::bestEffortByTrying);
        noBestEffort(39, TrainingDiary::bestEffortSession);
        bestEffortSession();
    }

    /** A load of 1 on the day 0, of 2 on the day 1 and so on, up to today. */
    private static TrainingDiary rising(int today) {
        TrainingDiary d = Diaries.on(today);
        for (int day = 0; day <= today; day++) {
            Diaries.session(d, day, 1 + day, 0);
        }
        return d;
    }

    private static TrainingDiary withSession(int today, int day, int... minutesAndIntensities) {
        TrainingDiary d = Diaries.on(today);
        Diaries.session(d, day, minutesAndIntensities);
        return d;
    }

    private void bestDays(int number, AskedWith record) {
        promise(number);
        sentence(LENGTH, () -> {
            dueWith(TrainingDiary::new, record, 1, 0);
            dueWith(() -> Diaries.on(199), record, 1, 0, 60, 0);
            dueWith(() -> rising(30), record, 1, 31, 2, 61, 31, 496);
            dueWith(() -> withSession(59, 0, 7, 0), record, 1, 7, 59, 7, 60, 7);
            dueWith(() -> withSession(59, 59, 7, 0), record, 1, 7, 59, 7, 60, 7);
            dueWith(() -> withSession(199, 199, 7, 0), record, 1, 7, 60, 7);
            dueWith(() -> withEnds(59), record, 1, 5, 59, 5, 60, 8);
            dueWith(() -> withEnds(60), record, 60, 5);
            dueWith(RecordEdges::withGreatestLoad, record, 1, 960000);
        });
    }

    /** A load of 3 on the day 0 and of 5 today. */
    private static TrainingDiary withEnds(int today) {
        TrainingDiary d = withSession(today, 0, 3, 0);
        Diaries.session(d, today, 5, 0);
        return d;
    }

    private static TrainingDiary withGreatestLoad() {
        TrainingDiary d = new TrainingDiary();
        d.setWeight(5, 100);
        for (int i = 0; i < 40; i++) {
            Diaries.session(d, 0, 120, 500, 120, 500);
        }
        return d;
    }

    private void noBestDays(int number, AskedWith record) {
        promise(number);
        sentence(NO_LENGTH, () -> {
            refusedWith(Diaries::rich, RANGE, record, 0, -1, 61, MIN, MAX);
            refusedWith(() -> Diaries.on(199), RANGE, record, 0, -1, 61, MIN, MAX);
        });
        sentence(TOO_FEW_DAYS, () -> {
            dueWith(TrainingDiary::new, record, 1, 0, 2, THERE, 60, THERE);
            dueWith(() -> Diaries.on(58), record, 59, 0, 60, THERE);
            dueWith(() -> Diaries.on(59), record, 60, 0);
            refusedWith(Diaries::rich, THERE, record, 13, 14, 60);
        });
    }

    private void bestDaysStart() {
        promise(36);
        sentence(LENGTH, () -> {
            dueWith(TrainingDiary::new, TrainingDiary::bestDaysStart, 1, 0);
            dueWith(() -> rising(30), TrainingDiary::bestDaysStart, 1, 30, 2, 29, 30, 1, 31, 0);
            dueWith(() -> withSession(199, 199, 7, 0), TrainingDiary::bestDaysStart, 1, 199, 60, 140);
        });
        sentence("of several rows of days with this load, that of the first one.", () -> {
            dueWith(() -> Diaries.on(199), TrainingDiary::bestDaysStart, 1, 0, 60, 0);
            TrainingDiary d = withSession(9, 7, 4, 0);
            Diaries.session(d, 3, 4, 0);
            Diaries.session(d, 9, 4, 0);
            dueWith(() -> d, TrainingDiary::bestDaysStart, 1, 3, 2, 2, 3, 7, 4, 6, 5, 3, 6, 2, 7, 3, 8, 2, 10, 0);
        });
    }

    private void bestEffort(int number, AskedWith record) {
        promise(number);
        sentence(MINUTES, () -> {
            dueWith(() -> withSession(0, 0, 1, 0), record, 1, 0, 2, THERE);
            dueWith(() -> withSession(0, 0, 1, 500), record, 1, 500, 2, THERE);
            dueWith(() -> withSession(0, 0, 120, 500, 120, 500), record, 1, 500, 239, 119500, 240, 120000);
            dueWith(() -> withSession(0, 0, 120, 0, 120, 0), record, 1, 0, 239, 0, 240, 0);
            dueWith(() -> withSession(0, 0, 1, 9, 119, 0, 119, 0, 1, 7), record, 1, 9, 239, 9, 240, 16);
            dueWith(() -> withSession(0, 0, 1, 7, 119, 0, 119, 0, 1, 9), record, 1, 9, 239, 9, 240, 16);
            dueWith(() -> withSession(0, 0, 1, 1, 1, 2, 1, 3, 1, 4, 1, 4, 1, 3, 1, 2, 1, 1), record, 1, 4, 2, 8, 3, 11, 7, 19, 8, 20, 9, THERE);
            dueWith(Diaries::full, record, 1, 420, 240, 50400);
            TrainingDiary removed = withSession(0, 0, 5, 100);
            Diaries.session(removed, 0, 5, 300);
            removed.removeSession(1);
            due("without a session that was removed", 500, () -> record.of(removed, 5));
        });
    }

    private void noBestEffort(int number, AskedWith record) {
        promise(number);
        sentence(NO_MINUTES, () -> {
            refusedWith(Diaries::rich, RANGE, record, 0, -1, 241, MIN, MAX);
            refusedWith(Diaries::full, RANGE, record, 0, -1, 241, MIN, MAX);
        });
        sentence(TOO_SHORT, () -> {
            refusedWith(TrainingDiary::new, THERE, record, 1, 240);
            refusedWith(() -> withSession(0, 0), THERE, record, 1, 240);
            refusedWith(() -> withSession(0, 0, 120, 500, 119, 500), THERE, record, 240);
            // The sessions of the rich diary are 50, 20 and 0 minutes long: those of several don't add up.
            refusedWith(Diaries::rich, THERE, record, 51, 70, 240);
            TrainingDiary d = withSession(0, 0, 2, 0);
            due("as long as the session", 0, () -> record.of(d, 2));
            d.clearParts(0);
            due("after its parts were cleared", THERE, () -> record.of(d, 1));
            d.addPart(0, 1, 0);
            d.removeSession(0);
            due("after it was removed", THERE, () -> record.of(d, 1));
        });
    }

    private void bestEffortSession() {
        promise(39);
        sentence(MINUTES, () -> {
            dueWith(() -> withSession(0, 0, 1, 0), TrainingDiary::bestEffortSession, 1, 0);
            dueWith(Diaries::full, TrainingDiary::bestEffortSession, 1, 0, 240, 0);
            dueWith(RecordEdges::withThree, TrainingDiary::bestEffortSession, 1, 0, 2, 1, 239, 1, 240, 2);
        });
        sentence("of several, the one that comes first in the order of days.", () -> {
            TrainingDiary d = withSession(5, 4, 2, 100);
            Diaries.session(d, 2, 2, 100);
            Diaries.session(d, 2, 2, 100);
            Diaries.session(d, 0, 1, 100);
            dueWith(() -> d, TrainingDiary::bestEffortSession, 1, 3, 2, 1);
            d.moveSession(0, 2);
            dueWith(() -> d, TrainingDiary::bestEffortSession, 1, 3, 2, 0);
            d.moveSession(3, 5);
            d.moveSession(2, 1);
            dueWith(() -> d, TrainingDiary::bestEffortSession, 1, 2, 2, 2);
            TrainingDiary zero = withSession(0, 0);
            Diaries.session(zero, 0, 1, 0);
            Diaries.session(zero, 0, 1, 0);
            due("an effort of 0, behind a session without parts", 1, () -> zero.bestEffortSession(1));
        });
    }

    /** The greatest effort of 1 minute, of 2 to 239 and of 240 are in the sessions 0, 1 and 2. */
    private static TrainingDiary withThree() {
        TrainingDiary d = withSession(0, 0, 1, 500);
        Diaries.session(d, 0, 120, 400, 119, 400);
        Diaries.session(d, 0, 120, 1, 120, 1);
        return d;
    }
}
