/** The plan: the edges of the promises 40 to 47. */
final class PlanEdges extends Edges {
    PlanEdges(Sentences sentences, Checks checks) {
        super(sentences, checks);
    }

    @Override
    void test() {
        startPlan();
        addTargetArguments();
        addTargetRefused();
        targetAt();
        dueEntry();
        missedDays();
        droppedEntries();
        planEnd();
        isPlanOver();
    }

    /** A plan that began a number of days ago, without sessions. */
    private static TrainingDiary after(int days, int... targets) {
        TrainingDiary d = new TrainingDiary();
        d.startPlan();
        Diaries.targets(d, targets);
        if (days > 0) {
            d.pass(days);
        }
        return d;
    }

    private static TrainingDiary withTargets(int count) {
        TrainingDiary d = new TrainingDiary();
        d.startPlan();
        for (int i = 0; i < count; i++) {
            d.addTarget(1);
        }
        return d;
    }

    private void startPlan() {
        promise(40);
        sentence("Returns the number of entries of the earlier plan, 0 if there was none.", () -> {
            due("none", 0, () -> new TrainingDiary().startPlan());
            due("without entries", 0, () -> withTargets(0).startPlan());
            due("one entry", 1, () -> withTargets(1).startPlan());
            due("as many as can be", 28, () -> withTargets(28).startPlan());
            due("a plan that is over", 1, () -> after(1, 0).startPlan());
            due("dropped entries count, too", 2, () -> after(20, 9, 9).startPlan());
        });
        sentence("Starts a new plan without entries, whose first day is today, in place of an earlier plan.", () -> {
            TrainingDiary d = after(4, 9, 9);
            due("missed in the earlier plan", 4, d::missedDays);
            due("dropped in the earlier plan", 1, d::droppedEntries);
            due("earlier entries", 2, d::startPlan);
            due("missed", 0, d::missedDays);
            due("dropped", 0, d::droppedEntries);
            due("no entry", INDEX, () -> d.targetAt(0));
            due("today is its first day", 1, () -> d.addTarget(9));
            due("and the entry 0 is due", 0, d::dueEntry);
            due("without an entry", 0, () -> after(0).startPlan());
        });
    }

    private void addTargetArguments() {
        promise(41);
        sentence("- `load`: the target, 0 to 20000", () -> {
            dueWith(() -> withTargets(0), TrainingDiary::addTarget, 0, 1, 20000, 1);
            due("least", 0, () -> after(0, 0).targetAt(0));
            due("greatest", 20000, () -> after(0, 20000).targetAt(0));
            TrainingDiary d = after(0, 20000);
            d.setWeight(1, 100);
            Diaries.session(d, 0, 99, 0);
            d.pass(1);
            due("twice 9900 is less than 20000", 1, d::missedDays);
            d.addPart(0, 1, 0);
            due("twice 10000 is not", 0, d::missedDays);
            due("the target is met", true, d::isPlanOver);
        });
        sentence("Throws `IllegalArgumentException` if the target is out of range", () -> {
            refusedWith(() -> withTargets(1), RANGE, TrainingDiary::addTarget, -1, 20001, MIN, MAX);
            refusedWith(Diaries::full, RANGE, TrainingDiary::addTarget, -1, 20001, MIN, MAX);
            refusedWith(TrainingDiary::new, RANGE, TrainingDiary::addTarget, -1, 20001, MIN, MAX);
        });
    }

    private void addTargetRefused() {
        promise(41);
        sentence("Throws `IllegalStateException` if there is no plan, if today is not its first day, or if it has 28 entries", () -> {
            refusedWith(TrainingDiary::new, STATE, TrainingDiary::addTarget, 0, 20000);
            refusedWith(() -> Diaries.on(199), STATE, TrainingDiary::addTarget, 0, 20000);
            refusedWith(() -> after(1), STATE, TrainingDiary::addTarget, 0, 20000);
            refusedWith(() -> after(1, 9), STATE, TrainingDiary::addTarget, 0, 20000);
            refusedWith(Diaries::rich, STATE, TrainingDiary::addTarget, 0, 20000);
            refusedWith(() -> withTargets(28), STATE, TrainingDiary::addTarget, 0, 20000);
            due("28th entry", 28, () -> withTargets(27).addTarget(9));
            TrainingDiary d = after(1, 9);
            d.undo();
            due("its first day again", 2, () -> d.addTarget(9));
            TrainingDiary last = Diaries.on(199);
            last.startPlan();
            due("on the last day", 1, () -> last.addTarget(9));
        });
    }

    private void targetAt() {
        promise(42);
        sentence("- `entry`: the entry, from 0", () -> {
            due("of one", 9, () -> after(0, 9).targetAt(0));
            dueWith(() -> after(0, 3, 0, 20000), TrainingDiary::targetAt, 0, 3, 1, 0, 2, 20000);
            dueWith(Diaries::full, TrainingDiary::targetAt, 0, 0, 1, 700, 27, 18900);
            due("over and dropped", 9, () -> after(30, 9).targetAt(0));
        });
        sentence("Throws `IndexOutOfBoundsException` if there is no such entry, or no plan", () -> {
            refusedWith(TrainingDiary::new, INDEX, TrainingDiary::targetAt, 0, -1, MIN, MAX);
            refusedWith(() -> after(0), INDEX, TrainingDiary::targetAt, 0, -1, MIN, MAX);
            refusedWith(Diaries::rich, INDEX, TrainingDiary::targetAt, 3, 4, 27, -1, MIN, MAX);
            refusedWith(Diaries::full, INDEX, TrainingDiary::targetAt, 28, -1, MIN, MAX);
            TrainingDiary d = after(0, 9);
            d.startPlan();
            due("that of an earlier plan", INDEX, () -> d.targetAt(0));
        });
    }

    private void dueEntry() {
        promise(43);
        sentence("Returns the entry, from 0.", () -> {
            due("on the first day", 0, () -> after(0, 9, 9).dueEntry());
            due("missed once", 0, () -> after(1, 9, 9).dueEntry());
            due("missed twice", 0, () -> after(2, 9, 9).dueEntry());
            due("dropped", 1, () -> after(3, 9, 9).dueEntry());
            due("on its third day", 1, () -> after(5, 9, 9).dueEntry());
            due("the last of as many as can be", 27, () -> zeroes(27).dueEntry());
        });
        sentence("Throws `NoSuchElementException` if there is no plan, or it is over", () -> noEntryIsDue(TrainingDiary::dueEntry));
    }

    /** As many entries as can be, all of them 0, after a number of days. */
    private static TrainingDiary zeroes(int days) {
        return after(days, new int[28]);
    }

    private void noEntryIsDue(Asked call) {
        refused(TrainingDiary::new, THERE, call);
        refused(() -> Diaries.on(199), THERE, call);
        refused(() -> after(0), THERE, call);
        refused(() -> after(30), THERE, call);
        refused(() -> after(1, 0), THERE, call);
        refused(() -> after(6, 9, 9), THERE, call);
        refused(() -> zeroes(28), THERE, call);
        TrainingDiary d = after(6, 9, 9);
        Diaries.session(d, 5, 5, 0);
        due("over by its last day", THERE, () -> call.of(d));
        TrainingDiary undone = after(5, 9, 9);
        undone.startPlan();
        undone.undo();
        due("a plan that is back again", false, () -> String.valueOf(Checks.told(() -> call.of(undone))).startsWith("throws."));
    }

    private void missedDays() {
        promise(44);
        sentence("Returns the number of days, 0 if there is no plan.", () -> {
            due("no plan", 0, () -> new TrainingDiary().missedDays());
            due("no plan at the end", 0, () -> Diaries.on(199).missedDays());
            due("without entries", 0, () -> after(30).missedDays());
            due("on the first day", 0, () -> after(0, 9).missedDays());
            due("one day", 1, () -> after(1, 9).missedDays());
            due("three days", 3, () -> after(3, 9).missedDays());
            due("not after it is over", 3, () -> after(4, 9).missedDays());
            TrainingDiary all = withTargets(28);
            due("today", 30, () -> all.pass(30));
            due("30 days", 30, all::missedDays);
            all.pass(30);
            all.pass(24);
            due("as many as can be", 84, all::missedDays);
            all.pass(1);
            due("no more", 84, all::missedDays);
        });
    }

    private void droppedEntries() {
        promise(45);
        sentence("Returns the number of entries, 0 if there is no plan.", () -> {
            due("no plan", 0, () -> new TrainingDiary().droppedEntries());
            due("no plan at the end", 0, () -> Diaries.on(199).droppedEntries());
            due("without entries", 0, () -> after(30).droppedEntries());
            due("on the first day", 0, () -> after(0, 9).droppedEntries());
            due("missed twice", 0, () -> after(2, 9).droppedEntries());
            due("missed three times", 1, () -> after(3, 9).droppedEntries());
            due("the next one twice", 1, () -> after(5, 9, 9).droppedEntries());
            due("the next one three times", 2, () -> after(6, 9, 9).droppedEntries());
            due("none that were met", 0, () -> zeroes(30).droppedEntries());
            TrainingDiary all = withTargets(28);
            all.pass(30);
            all.pass(30);
            all.pass(23);
            due("all but one", 27, all::droppedEntries);
            all.pass(1);
            due("all", 28, all::droppedEntries);
        });
    }

    private void planEnd() {
        promise(46);
        sentence("Returns the day, which can be greater than 199.", () -> {
            due("one entry, today", 0, () -> after(0, 9).planEnd());
            due("one entry, missed", 1, () -> after(1, 9).planEnd());
            due("one entry, missed twice", 2, () -> after(2, 9).planEnd());
            due("one of two, dropped", 3, () -> after(3, 9, 9).planEnd());
            due("none missed", 27, () -> zeroes(27).planEnd());
            due("as many as can be", 27, () -> zeroes(0).planEnd());
            due("far behind the last day", 226, () -> Diaries.full().planEnd());
            TrainingDiary last = Diaries.on(199);
            last.startPlan();
            last.addTarget(9);
            due("on the last day", 199, last::planEnd);
            last.addTarget(9);
            due("on the day behind it", 200, last::planEnd);
        });
        sentence("Throws `NoSuchElementException` if there is no plan, or it is over", () -> noEntryIsDue(TrainingDiary::planEnd));
    }

    private void isPlanOver() {
        promise(47);
        sentence("Returns whether there is a plan that is over.", () -> {
            due("no plan", false, () -> new TrainingDiary().isPlanOver());
            due("no plan at the end", false, () -> Diaries.on(199).isPlanOver());
            due("without entries", true, () -> after(0).isPlanOver());
            due("without entries, later", true, () -> after(30).isPlanOver());
            due("on the first day", false, () -> after(0, 0).isPlanOver());
            due("met", true, () -> after(1, 0).isPlanOver());
            due("missed twice", false, () -> after(2, 9).isPlanOver());
            due("dropped", true, () -> after(3, 9).isPlanOver());
            due("the last one is due", false, () -> zeroes(27).isPlanOver());
            due("all were met", true, () -> zeroes(28).isPlanOver());
        });
    }
}
