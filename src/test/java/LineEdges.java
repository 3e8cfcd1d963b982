/** Line, undo and snapshots: the edges of the promises 48 to 52. */
final class LineEdges extends Edges {
    LineEdges(Sentences sentences, Checks checks) {
        super(sentences, checks);
    }

    @Override
    void test() {
        writeWeekArguments();
        writeWeekSigns();
        lineAt();
        undo();
        save();
        restore();
    }

    private static TrainingDiary withSession(int today, int day, int... minutesAndIntensities) {
        TrainingDiary d = Diaries.on(today);
        Diaries.session(d, day, minutesAndIntensities);
        return d;
    }

    private void writeWeekArguments() {
        promise(48);
        sentence("- `day`: the first day of the week, 0 to today", () -> {
            dueWith(TrainingDiary::new, Diaries::week, 0, ". - - - - - -", 1, RANGE);
            dueWith(() -> Diaries.on(20), Diaries::week, 0, ". . . . . . .", 14, ". . . . . . .", 15, ". . . . . . -", 20, ". - - - - - -", 21, RANGE);
            dueWith(() -> Diaries.on(199), Diaries::week, 0, ". . . . . . .", 193, ". . . . . . .", 194, ". . . . . . -", 199, ". - - - - - -", 200, RANGE);
        });
        sentence("Throws `IllegalArgumentException` if the day is out of range", () ->
                refusedWith(Diaries::rich, RANGE, TrainingDiary::writeWeek, -1, 12, 199, MIN, MAX));
        sentence("Returns the length of the line.", () -> {
            dueWith(() -> Diaries.on(199), TrainingDiary::writeWeek, 0, 13, 193, 13, 199, 13);
            TrainingDiary d = new TrainingDiary();
            d.writeWeek(0);
            due("in place of the line before", 13, () -> d.writeWeek(0));
            due("no more than one week", INDEX, () -> d.lineAt(13));
        });
    }

    private void writeWeekSigns() {
        promise(48);
        sentence("The character is \"-\" for a day after today, \".\" for a day without sessions, and for another day the digit of the zone"
                + " in which most minutes of its sessions are, the lowest one of several, or \"0\" if its sessions have no parts", () -> {
            due("one without parts", "0 - - - - - -", () -> Diaries.week(withSession(0, 0), 0));
            due("zone 1", "1 - - - - - -", () -> Diaries.week(withSession(0, 0, 1, 159), 0));
            due("zone 2", "2 - - - - - -", () -> Diaries.week(withSession(0, 0, 1, 160), 0));
            due("zone 5", "5 - - - - - -", () -> Diaries.week(withSession(0, 0, 1, 220), 0));
            due("all zones", "1 - - - - - -", () -> Diaries.week(withSession(0, 0, 9, 500, 9, 219, 9, 199, 9, 179, 9, 0), 0));
            due("a minute more", "5 - - - - - -", () -> Diaries.week(withSession(0, 0, 10, 500, 9, 219, 9, 199, 9, 179, 9, 0), 0));
            due("zones 4 and 5", "4 - - - - - -", () -> Diaries.week(withSession(0, 0, 9, 500, 8, 0, 9, 219), 0));
            due("the first and the last day", "2 . . . . . 3", () -> {
                TrainingDiary d = withSession(20, 3, 1, 160);
                Diaries.session(d, 9, 1, 180);
                Diaries.session(d, 2, 1, 500);
                Diaries.session(d, 10, 1, 500);
                return Diaries.week(d, 3);
            });
            due("with as many sessions as can be", "5 . . . . 0 .", () -> Diaries.week(Diaries.full(), 0));
            TrainingDiary removed = withSession(0, 0, 1, 160);
            Diaries.session(removed, 0, 5, 180);
            removed.removeSession(1);
            due("without a session that was removed", "2 - - - - - -", () -> Diaries.week(removed, 0));
            TrainingDiary d = withSession(0, 0);
            Diaries.session(d, 0, 5, 160);
            d.addSession(0);
            due("sessions with and without parts", "2 - - - - - -", () -> Diaries.week(d, 0));
            Diaries.session(d, 0, 3, 180);
            Diaries.session(d, 0, 2, 180);
            due("as many minutes of two sessions", "2 - - - - - -", () -> Diaries.week(d, 0));
            d.addPart(0, 1, 180);
            due("more minutes of several sessions", "3 - - - - - -", () -> Diaries.week(d, 0));
            for (int id = 0; id < 5; id++) {
                d.clearParts(id);
            }
            due("no parts any more", "0 - - - - - -", () -> Diaries.week(d, 0));
        });
        sentence("as in \"2 . 3 0 . 5 -\".", () -> {
            TrainingDiary d = withSession(5, 0, 1, 160);
            Diaries.session(d, 2, 1, 180);
            Diaries.session(d, 3);
            Diaries.session(d, 5, 1, 220);
            due("the week from 0", "2 . 3 0 . 5 -", () -> Diaries.week(d, 0));
        });
    }

    private void lineAt() {
        promise(49);
        sentence("Returns a character of the line, which is empty at first.", () -> {
            dueWith(TrainingDiary::new, TrainingDiary::lineAt, 0, INDEX, 1, INDEX, 12, INDEX, -1, INDEX);
            TrainingDiary d = new TrainingDiary();
            due("refused", RANGE, () -> d.writeWeek(1));
            due("still empty", INDEX, () -> d.lineAt(0));
        });
        sentence("- `index`: index of the character, from 0", () ->
                dueWith(Diaries::rich, TrainingDiary::lineAt, 0, '.', 1, ' ', 4, '1', 11, ' ', 12, '0'));
        sentence("Throws `IndexOutOfBoundsException` if there is no such character", () -> {
            refusedWith(TrainingDiary::new, INDEX, TrainingDiary::lineAt, -1, 0, 13, MIN, MAX);
            refusedWith(Diaries::rich, INDEX, TrainingDiary::lineAt, -1, 13, MIN, MAX);
        });
    }

    private static TrainingDiary passed(int times) {
        TrainingDiary d = new TrainingDiary();
        for (int i = 0; i < times; i++) {
            d.pass(1);
        }
        return d;
    }

    private void undo() {
        promise(50);
        sentence("Returns the number of modifications that can still be undone.", () -> {
            for (int times = 1; times <= 20; times++) {
                TrainingDiary d = passed(times);
                int most = Math.min(times, 6);
                for (int i = 1; i <= most; i++) {
                    int left = most - i;
                    due("undo " + i + " of " + times, left, d::undo);
                    due("today", times - i, d::today);
                }
                due("none of " + times, STATE, d::undo);
                due("today", times - most, d::today);
            }
        });
        sentence("Throws `IllegalStateException` if there is none", () -> {
            refused(TrainingDiary::new, STATE, TrainingDiary::undo);
            TrainingDiary d = passed(1);
            due("one", 0, d::undo);
            due("undone before", STATE, d::undo);
            due("again", STATE, d::undo);
            TrainingDiary saved = passed(1);
            saved.save();
            saved.restore();
            due("after restore", STATE, saved::undo);
        });
        sentence("Undoes the last modification that can be undone.", () -> {
            // Undone ones give their places to others, around the end of the row that is kept.
            TrainingDiary d = passed(8);
            due("8th", 5, d::undo);
            due("7th", 4, d::undo);
            due("another 7th", 9, () -> d.pass(3));
            due("another 8th", 13, () -> d.pass(4));
            due("another 9th", 18, () -> d.pass(5));
            int[] todays = {13, 9, 6, 5, 4, 3};
            for (int i = 0; i < 6; i++) {
                int left = 5 - i;
                due("undo", left, d::undo);
                due("today", todays[i], d::today);
            }
            due("no more", STATE, d::undo);
        });
    }

    private void save() {
        promise(51);
        sentence("Saves the state as a snapshot, which replaces an earlier one.", () -> {
            TrainingDiary d = new TrainingDiary();
            due("nothing", 0, d::save);
            due("as it was", 0, d::restore);
            d.addSession(0);
            due("one session", 1, d::save);
            d.addSession(0);
            due("two sessions", 2, d::save);
            d.removeSession(0);
            d.removeSession(1);
            due("the later one", 2, d::restore);
            due("full", 40, () -> Diaries.full().save());
        });
    }

    private void restore() {
        promise(52);
        sentence("Throws `IllegalStateException` if there is no snapshot", () -> {
            refused(TrainingDiary::new, STATE, TrainingDiary::restore);
            refused(Diaries::full, STATE, TrainingDiary::restore);
            TrainingDiary d = new TrainingDiary();
            due("refused", STATE, d::restore);
            d.save();
            due("there is one now", 0, d::restore);
        });
        sentence("Restores the snapshot, which is kept. Afterwards nothing can be undone.", () -> {
            TrainingDiary d = Diaries.rich();
            due("first", 2, d::restore);
            due("nothing to undo", STATE, d::undo);
            d.removeSession(0);
            d.removeSession(1);
            due("again", 2, d::restore);
            due("nothing to undo again", STATE, d::undo);
            due("at once again", 2, d::restore);
            TrainingDiary first = Diaries.rich();
            first.restore();
            due("all is as at first", Diaries.picture(first), () -> Diaries.picture(d));
        });
        sentence("Returns the number of sessions.", () -> {
            TrainingDiary d = Diaries.full();
            d.save();
            for (int id = 0; id < 40; id++) {
                d.removeSession(id);
            }
            due("as many as can be", 40, d::restore);
            TrainingDiary none = new TrainingDiary();
            none.save();
            none.addSession(0);
            due("none", 0, none::restore);
        });
    }
}
