/** Sessions: the edges of the promises 13 to 26. */
final class SessionEdges extends Edges {
    private static final int[] NO_ZONES = {0, -1, 6, MIN, MAX};
    private static final int[] NO_DAYS_OF_RICH = {-1, 12, 199, MIN, MAX};
    // The rich diary has the sessions 0, 1 and 2; the session 3 was removed and 4 was never given.
    private static final int[] NO_IDS_OF_RICH = {3, 4, -1, MIN, MAX};
    private static final String NO_SESSION = "Throws `NoSuchElementException` if no session has this id";
    private static final String ID = "- `id`: the id of the session";

    SessionEdges(Sentences sentences, Checks checks) {
        super(sentences, checks);
    }

    @Override
    void test() {
        addSession();
        addPartArguments();
        addPartRefused();
        clearParts();
        moveSession();
        removeSession();
        sessionCount();
        sessionAt();
        dayOf();
        minutesOf();
        minutesInZone();
        loadOf();
        loadOn();
        zoneShare();
        meanLoad();
    }

    private static TrainingDiary withSession(int... minutesAndIntensities) {
        TrainingDiary d = new TrainingDiary();
        Diaries.session(d, 0, minutesAndIntensities);
        return d;
    }

    private static TrainingDiary withSessions(int count) {
        TrainingDiary d = new TrainingDiary();
        for (int i = 0; i < count; i++) {
            d.addSession(0);
        }
        return d;
    }

    private void addSession() {
        promise(13);
        sentence("- `day`: the day, 0 to today", () -> {
            dueWith(TrainingDiary::new, TrainingDiary::addSession, 0, 0, 1, RANGE);
            dueWith(() -> Diaries.on(20), TrainingDiary::addSession, 0, 0, 20, 0, 21, RANGE);
            dueWith(() -> Diaries.on(199), TrainingDiary::addSession, 0, 0, 199, 0, 200, RANGE);
        });
        sentence("Throws `IllegalArgumentException` if the day is out of range", () ->
                refusedWith(Diaries::rich, RANGE, TrainingDiary::addSession, NO_DAYS_OF_RICH));
        sentence("Throws `IllegalStateException` if there are 40 sessions", () -> {
            due("40th session", 39, () -> withSessions(39).addSession(0));
            refusedWith(() -> withSessions(40), STATE, TrainingDiary::addSession, 0);
            refusedWith(Diaries::full, STATE, TrainingDiary::addSession, 0, 199);
            TrainingDiary d = withSessions(40);
            d.removeSession(0);
            due("40th session again", 40, () -> d.addSession(0));
            due("41st session", STATE, () -> d.addSession(0));
        });
        sentence("Adds a session without parts.", () -> {
            TrainingDiary d = withSession(10, 100);
            d.removeSession(0);
            d.addSession(0);
            due("minutes", 0, () -> d.minutesOf(1));
            due("parts", 0, () -> d.clearParts(1));
        });
    }

    private void addPartArguments() {
        promise(14);
        sentence(ID, () -> dueWith(Diaries::full, (d, id) -> d.addPart(id, 1, 0), 1, 1, 39, 1));
        sentence("- `minutes`: the minutes of the part, 1 to 120", () -> {
            dueWith(() -> withSession(), (d, minutes) -> d.addPart(0, minutes, 100), 1, 1, 120, 1);
            due("least", 1, () -> withSession(1, 100).minutesOf(0));
            due("greatest", 120, () -> withSession(120, 100).minutesOf(0));
        });
        sentence("- `intensity`: the intensity of the part, 0 to 500", () -> {
            dueWith(() -> withSession(), (d, intensity) -> d.addPart(0, 1, intensity), 0, 1, 500, 1);
            due("least", 0, () -> withSession(1, 0).bestEffort(1));
            due("greatest", 500, () -> withSession(1, 500).bestEffort(1));
        });
        sentence(NO_SESSION, () -> {
            due("without sessions", THERE, () -> new TrainingDiary().addPart(0, 1, 100));
            refusedWith(Diaries::rich, THERE, (d, id) -> d.addPart(id, 10, 100), NO_IDS_OF_RICH);
        });
        sentence("Throws `IllegalArgumentException` if another argument is out of range", () -> {
            refusedWith(Diaries::rich, RANGE, (d, minutes) -> d.addPart(0, minutes, 100), 0, -1, 121, MIN, MAX);
            refusedWith(Diaries::rich, RANGE, (d, intensity) -> d.addPart(0, 10, intensity), -1, 501, MIN, MAX);
        });
    }

    private void addPartRefused() {
        promise(14);
        sentence("Throws `IllegalStateException` if the session has 8 parts, or it would be longer than 240 minutes", () -> {
            refused(Diaries::full, STATE, d -> d.addPart(0, 1, 100));
            dueWith(() -> withSession(1, 1, 1, 2, 1, 3, 1, 4, 1, 5, 1, 6, 1, 7), (d, minutes) -> d.addPart(0, minutes, 8), 1, 8, 120, 8);
            refusedWith(() -> withSession(1, 1, 1, 2, 1, 3, 1, 4, 1, 5, 1, 6, 1, 7, 1, 8), STATE, (d, minutes) -> d.addPart(0, minutes, 9), 1, 120);
            dueWith(() -> withSession(120, 1), (d, minutes) -> d.addPart(0, minutes, 2), 119, 2, 120, 2);
            dueWith(() -> withSession(120, 1, 119, 2), (d, minutes) -> d.addPart(0, minutes, 3), 1, 3, 2, STATE, 120, STATE);
            refusedWith(() -> withSession(120, 1, 119, 2), STATE, (d, minutes) -> d.addPart(0, minutes, 3), 2, 120);
            refusedWith(() -> withSession(120, 1, 120, 2), STATE, (d, minutes) -> d.addPart(0, minutes, 3), 1);
            TrainingDiary d = withSession(120, 1, 120, 2);
            d.clearParts(0);
            due("after its parts were cleared", 1, () -> d.addPart(0, 120, 3));
            due("another session is not full", 1, () -> d.addPart(d.addSession(0), 120, 3));
        });
    }

    private void clearParts() {
        promise(15);
        sentence(ID, () -> dueWith(Diaries::full, TrainingDiary::clearParts, 0, 8, 1, 0, 39, 0));
        sentence("Returns the number of parts that it had.", () -> {
            due("none", 0, () -> withSession().clearParts(0));
            due("as many as can be", 8, () -> Diaries.full().clearParts(0));
            TrainingDiary d = withSession(120, 500);
            d.clearParts(0);
            due("twice", 0, () -> d.clearParts(0));
            due("no minutes", 0, () -> d.minutesOf(0));
            due("no load", 0, () -> d.loadOn(0));
            due("the session stays", 1, d::sessionCount);
        });
        sentence(NO_SESSION, () -> {
            due("without sessions", THERE, () -> new TrainingDiary().clearParts(0));
            refusedWith(Diaries::rich, THERE, TrainingDiary::clearParts, NO_IDS_OF_RICH);
        });
    }

    private void moveSession() {
        promise(16);
        sentence(ID, () -> dueWith(Diaries::full, (d, id) -> d.moveSession(id, 100), 0, 0, 39, 195));
        sentence("- `day`: the new day, 0 to today", () -> {
            dueWith(() -> withSession(1, 1), (d, day) -> d.moveSession(0, day), 0, 0, 1, RANGE);
            dueWith(Diaries::rich, (d, day) -> d.moveSession(1, day), 0, 4, 4, 4, 11, 4);
            TrainingDiary d = Diaries.full();
            due("to the last day", 0, () -> d.moveSession(0, 199));
            due("to the day 0", 199, () -> d.moveSession(0, 0));
        });
        sentence(NO_SESSION, () -> {
            due("without sessions", THERE, () -> new TrainingDiary().moveSession(0, 0));
            refusedWith(Diaries::rich, THERE, (d, id) -> d.moveSession(id, 3), NO_IDS_OF_RICH);
        });
        sentence("Throws `IllegalArgumentException` if the day is out of range", () ->
                refusedWith(Diaries::rich, RANGE, (d, day) -> d.moveSession(1, day), NO_DAYS_OF_RICH));
    }

    private void removeSession() {
        promise(17);
        sentence(ID, () -> dueWith(Diaries::full, TrainingDiary::removeSession, 0, 39, 39, 39));
        sentence("Returns the number of sessions that are left.", () -> {
            TrainingDiary d = withSessions(40);
            for (int i = 0; i < 40; i++) {
                // From both ends toward the middle.
                int id = i % 2 == 0 ? i / 2 : 39 - i / 2;
                int left = 39 - i;
                due("left after " + id, left, () -> d.removeSession(id));
            }
            due("none", 0, d::sessionCount);
        });
        sentence(NO_SESSION, () -> {
            due("without sessions", THERE, () -> new TrainingDiary().removeSession(0));
            refusedWith(Diaries::rich, THERE, TrainingDiary::removeSession, NO_IDS_OF_RICH);
        });
    }

    private void sessionCount() {
        promise(18);
        sentence("Returns the number of sessions.", () -> {
            due("none", 0, () -> new TrainingDiary().sessionCount());
            due("as many as can be", 40, () -> Diaries.full().sessionCount());
            TrainingDiary d = withSessions(40);
            due("one more", STATE, () -> d.addSession(0));
            due("after the refused one", 40, d::sessionCount);
        });
    }

    private void sessionAt() {
        promise(19);
        sentence("of sessions on the same day, the one with the lower id comes first.", () -> {
            TrainingDiary d = Diaries.on(2);
            for (int day : new int[] {1, 0, 1, 0}) {
                d.addSession(day);
            }
            dueWith(() -> d, TrainingDiary::sessionAt, 0, 1, 1, 3, 2, 0, 3, 2);
            d.moveSession(0, 0);
            dueWith(() -> d, TrainingDiary::sessionAt, 0, 0, 1, 1, 2, 3, 3, 2);
            d.moveSession(3, 1);
            dueWith(() -> d, TrainingDiary::sessionAt, 0, 0, 1, 1, 2, 2, 3, 3);
            d.moveSession(1, 1);
            dueWith(() -> d, TrainingDiary::sessionAt, 0, 0, 1, 1, 2, 2, 3, 3);
            d.moveSession(0, 2);
            dueWith(() -> d, TrainingDiary::sessionAt, 0, 1, 1, 2, 2, 3, 3, 0);
        });
        sentence("- `position`: the position, from 0", () -> {
            due("of one session", 0, () -> withSession().sessionAt(0));
            dueWith(Diaries::full, TrainingDiary::sessionAt, 0, 0, 39, 39);
        });
        sentence("Throws `IndexOutOfBoundsException` if there is no such position", () -> {
            dueWith(TrainingDiary::new, TrainingDiary::sessionAt, -1, INDEX, 0, INDEX, 1, INDEX);
            refusedWith(Diaries::rich, INDEX, TrainingDiary::sessionAt, -1, 3, 4, MIN, MAX);
            refusedWith(Diaries::full, INDEX, TrainingDiary::sessionAt, -1, 40, MIN, MAX);
        });
    }

    private void dayOf() {
        promise(20);
        sentence(ID, () -> dueWith(Diaries::full, TrainingDiary::dayOf, 0, 0, 39, 195));
        sentence(NO_SESSION, () -> {
            due("without sessions", THERE, () -> new TrainingDiary().dayOf(0));
            refusedWith(Diaries::rich, THERE, TrainingDiary::dayOf, NO_IDS_OF_RICH);
        });
    }

    private void minutesOf() {
        promise(21);
        sentence(ID, () -> dueWith(Diaries::full, TrainingDiary::minutesOf, 0, 240, 39, 0));
        sentence("Returns the sum of the minutes of its parts.", () -> {
            due("without parts", 0, () -> withSession().minutesOf(0));
            due("shortest", 1, () -> withSession(1, 0).minutesOf(0));
            due("longest", 240, () -> withSession(120, 0, 120, 0).minutesOf(0));
        });
        sentence(NO_SESSION, () -> {
            due("without sessions", THERE, () -> new TrainingDiary().minutesOf(0));
            refusedWith(Diaries::rich, THERE, TrainingDiary::minutesOf, NO_IDS_OF_RICH);
        });
    }

    private void minutesInZone() {
        promise(22);
        sentence(ID, () -> {
            due("first", 240, () -> Diaries.full().minutesInZone(0, 1) + Diaries.full().minutesInZone(0, 5));
            due("last", 0, () -> Diaries.full().minutesInZone(39, 1));
        });
        sentence("- `zone`: the zone, 1 to 5", () -> {
            dueWith(() -> withSession(1, 159, 2, 160, 3, 180, 4, 200, 5, 220), (d, zone) -> d.minutesInZone(0, zone), 1, 1, 2, 2, 3, 3, 4, 4, 5, 5);
            dueWith(() -> withSession(), (d, zone) -> d.minutesInZone(0, zone), 1, 0, 5, 0);
        });
        sentence(NO_SESSION, () -> {
            due("without sessions", THERE, () -> new TrainingDiary().minutesInZone(0, 1));
            refusedWith(Diaries::rich, THERE, (d, id) -> d.minutesInZone(id, 1), NO_IDS_OF_RICH);
        });
        sentence("Throws `IllegalArgumentException` if there is no such zone", () ->
                refusedWith(Diaries::rich, RANGE, (d, zone) -> d.minutesInZone(0, zone), NO_ZONES));
    }

    private void loadOf() {
        promise(23);
        sentence(ID, () -> {
            due("without parts", 0, () -> withSession().loadOf(0));
            due("least with parts", 1, () -> withSession(1, 0).loadOf(0));
            TrainingDiary most = withSession(120, 500, 120, 220);
            most.setWeight(5, 100);
            due("greatest", 24000, () -> most.loadOf(0));
            due("last of 40", 0, () -> Diaries.full().loadOf(39));
        });
        sentence(NO_SESSION, () -> {
            due("without sessions", THERE, () -> new TrainingDiary().loadOf(0));
            refusedWith(Diaries::rich, THERE, TrainingDiary::loadOf, NO_IDS_OF_RICH);
        });
    }

    private void loadOn() {
        promise(24);
        sentence("- `day`: the day, 0 to today", () -> {
            dueWith(() -> withSession(10, 220), TrainingDiary::loadOn, 0, 80, 1, RANGE);
            TrainingDiary d = Diaries.on(199);
            Diaries.session(d, 0, 1, 160);
            Diaries.session(d, 199, 2, 160);
            dueWith(() -> d, TrainingDiary::loadOn, 0, 2, 1, 0, 198, 0, 199, 4, 200, RANGE);
        });
        sentence("Throws `IllegalArgumentException` if the day is out of range", () ->
                refusedWith(Diaries::rich, RANGE, TrainingDiary::loadOn, NO_DAYS_OF_RICH));
    }

    private void zoneShare() {
        promise(25);
        sentence("- `zone`: the zone, 1 to 5", () -> {
            dueWith(() -> withSession(1, 159, 1, 160, 1, 199, 1, 219, 1, 500), TrainingDiary::zoneShare, 1, 0.2f, 2, 0.2f, 3, 0.2f, 4, 0.2f, 5, 0.2f);
            dueWith(() -> withSession(120, 0), TrainingDiary::zoneShare, 1, 1.0f, 2, 0.0f, 5, 0.0f);
            dueWith(() -> withSession(120, 500), TrainingDiary::zoneShare, 1, 0.0f, 4, 0.0f, 5, 1.0f);
        });
        sentence("Throws `IllegalArgumentException` if there is no such zone", () ->
                refusedWith(Diaries::rich, RANGE, TrainingDiary::zoneShare, NO_ZONES));
        sentence("Throws `ArithmeticException` if there are no minutes", () -> {
            String none = "throws.ArithmeticException";
            refusedWith(TrainingDiary::new, none, TrainingDiary::zoneShare, 1, 5);
            refusedWith(() -> withSession(), none, TrainingDiary::zoneShare, 1, 5);
            TrainingDiary d = withSession(1, 0);
            due("one minute", 1.0f, () -> d.zoneShare(1));
            d.clearParts(0);
            due("cleared", none, () -> d.zoneShare(1));
            d.addPart(0, 1, 0);
            d.removeSession(0);
            due("removed", none, () -> d.zoneShare(1));
            d.undo();
            due("back again", 1.0f, () -> d.zoneShare(1));
        });
        sentence("Returns the number of minutes of all sessions in the zone divided by the number of minutes of all sessions, both converted to float.", () -> {
            TrainingDiary d = new TrainingDiary();
            for (int i = 0; i < 40; i++) {
                Diaries.session(d, 0, 120, 500, i == 39 ? 119 : 120, 500);
            }
            d.addPart(39, 1, 0);
            due("one minute of as many as can be", 1.0f / 9600.0f, () -> d.zoneShare(1));
            due("the others", 9599.0f / 9600.0f, () -> d.zoneShare(5));
            due("a third", 1.0f / 3.0f, () -> withSession(1, 0, 2, 500).zoneShare(1));
        });
    }

    private void meanLoad() {
        promise(26);
        sentence("Returns the sum of the loads of these days divided by their number, both converted to double.", () -> {
            due("one day without load", 0.0, () -> new TrainingDiary().meanLoad());
            due("one day", 80.0, () -> withSession(10, 220).meanLoad());
            due("all days without load", 0.0, () -> Diaries.on(199).meanLoad());
            TrainingDiary d = Diaries.on(199);
            Diaries.session(d, 0, 1, 0);
            Diaries.session(d, 199, 1, 160);
            due("first and last of 200 days", 3.0 / 200.0, d::meanLoad);
            TrainingDiary third = Diaries.on(2);
            Diaries.session(third, 2, 1, 0);
            due("a third", 1.0 / 3.0, third::meanLoad);
        });
    }
}
