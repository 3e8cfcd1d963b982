import java.util.function.Supplier;

/** Fitness, fatigue and form: the edges of the promises 27 to 33. */
final class FormEdges extends Edges {
    private static final String DAY = "- `day`: the day, 0 to today";
    private static final String NO_DAY = "Throws `IllegalArgumentException` if the day is out of range";
    private static final int[] NO_DAYS_OF_RICH = {-1, 12, 199, MIN, MAX};

    FormEdges(Sentences sentences, Checks checks) {
        super(sentences, checks);
    }

    @Override
    void test() {
        fitnessOn();
        fitnessFromStart();
        fatigueOn();
        fatigueFromStart();
        stillKnown();
        formOn();
        bestFormDay();
        daysToFormArguments();
        daysToFormAnswer();
    }

    /** A load of 1 on the day 0: a fitness of 23 that stays, and a fatigue of 142, 122, 105 .. that ends at 6. */
    private static TrainingDiary withLeastLoad(int today) {
        TrainingDiary d = Diaries.on(today);
        Diaries.session(d, 0, 1, 0);
        return d;
    }

    private static TrainingDiary withLeastLoadToday(int today) {
        TrainingDiary d = Diaries.on(today);
        Diaries.session(d, today, 1, 0);
        return d;
    }

    private static TrainingDiary withGreatestLoad() {
        TrainingDiary d = new TrainingDiary();
        d.setWeight(5, 100);
        for (int i = 0; i < 40; i++) {
            Diaries.session(d, 0, 120, 500, 120, 500);
        }
        return d;
    }

    private void fitnessOn() {
        promise(27);
        sentence(DAY, () -> fitnessDays(TrainingDiary::fitnessOn));
        sentence(NO_DAY, () -> refusedWith(Diaries::rich, RANGE, TrainingDiary::fitnessOn, NO_DAYS_OF_RICH));
    }

    private void fitnessFromStart() {
        promise(28);
        sentence(DAY, () -> fitnessDays(TrainingDiary::fitnessFromStart));
        sentence(NO_DAY, () -> refusedWith(Diaries::rich, RANGE, TrainingDiary::fitnessFromStart, NO_DAYS_OF_RICH));
    }

    private void fitnessDays(AskedWith fitness) {
        dueWith(TrainingDiary::new, fitness, 0, 0, 1, RANGE);
        dueWith(() -> withLeastLoad(0), fitness, 0, 23, 1, RANGE);
        dueWith(() -> withLeastLoad(199), fitness, 0, 23, 1, 23, 199, 23, 200, RANGE);
        dueWith(() -> withLeastLoadToday(199), fitness, 0, 0, 198, 0, 199, 23);
        dueWith(FormEdges::withGreatestLoad, fitness, 0, 22857142);
    }

    private void fatigueOn() {
        promise(29);
        sentence(DAY, () -> fatigueDays(TrainingDiary::fatigueOn));
        sentence(NO_DAY, () -> refusedWith(Diaries::rich, RANGE, TrainingDiary::fatigueOn, NO_DAYS_OF_RICH));
    }

    private void fatigueFromStart() {
        promise(30);
        sentence(DAY, () -> fatigueDays(TrainingDiary::fatigueFromStart));
        sentence(NO_DAY, () -> refusedWith(Diaries::rich, RANGE, TrainingDiary::fatigueFromStart, NO_DAYS_OF_RICH));
    }

    private void fatigueDays(AskedWith fatigue) {
        dueWith(TrainingDiary::new, fatigue, 0, 0, 1, RANGE);
        dueWith(() -> withLeastLoad(0), fatigue, 0, 142, 1, RANGE);
        dueWith(() -> withLeastLoad(199), fatigue, 0, 142, 1, 122, 22, 7, 23, 6, 199, 6, 200, RANGE);
        dueWith(() -> withLeastLoadToday(199), fatigue, 0, 0, 198, 0, 199, 142);
        dueWith(FormEdges::withGreatestLoad, fatigue, 0, 137142857);
    }

    private void stillKnown() {
        promise(27);
        sentence("from the last day for which it is still known.", () -> stillKnown(TrainingDiary::fitnessOn, TrainingDiary::fitnessFromStart));
        promise(29);
        sentence("from the last day for which it is still known.", () -> stillKnown(TrainingDiary::fatigueOn, TrainingDiary::fatigueFromStart));
    }

    /** Each change touches the first of the days that are known, the one before the last, or the last. */
    private void stillKnown(AskedWith known, AskedWith fromStart) {
        for (int day : new int[] {0, 1, 28, 29, 30}) {
            afterChange(day, known, fromStart, d -> d.addPart(day, 60, 250));
            afterChange(day, known, fromStart, d -> d.clearParts(day));
            afterChange(day, known, fromStart, d -> d.removeSession(day));
            afterChange(day, known, fromStart, d -> d.moveSession(day, 15));
            afterChange(day, known, fromStart, d -> d.moveSession(15, day));
            afterChange(day, known, fromStart, d -> d.addTest(day, 400));
            afterChange(day, known, fromStart, d -> d.addTest(day, 50) + knownOnce(d) + d.removeTest(day));
            afterChange(day, known, fromStart, d -> d.setWeight(1, 50));
            afterChange(day, known, fromStart, d -> d.setBound(5, 101));
            afterChange(day, known, fromStart, d -> d.clearParts(day) + knownOnce(d) + d.undo());
            afterChange(day, known, fromStart, d -> d.save() + d.removeSession(day) + knownOnce(d) + d.restore());
            afterChange(day, known, fromStart, d -> d.pass(30) + d.moveSession(day, 45));
        }
    }

    private static int knownOnce(TrainingDiary d) {
        return d.fitnessOn(30) + d.fatigueOn(30);
    }

    private void afterChange(int day, AskedWith known, AskedWith fromStart, Asked change) {
        for (int asked : new int[] {30, day}) {
            TrainingDiary d = Diaries.on(30);
            for (int i = 0; i <= 30; i++) {
                Diaries.session(d, i, 1 + i, 150 + i, 5, 203);
            }
            known.of(d, 30);
            change.of(d);
            known.of(d, Math.max(0, asked - 1));
            due("day " + asked, fromStart.of(d, asked), () -> known.of(d, asked));
            int today = d.today();
            due("today", fromStart.of(d, today), () -> known.of(d, today));
            due("day 0", fromStart.of(d, 0), () -> known.of(d, 0));
        }
    }

    private void formOn() {
        promise(31);
        sentence(DAY, () -> {
            dueWith(TrainingDiary::new, TrainingDiary::formOn, 0, 0, 1, RANGE);
            dueWith(() -> withLeastLoad(0), TrainingDiary::formOn, 0, 0, 1, RANGE);
            dueWith(() -> withLeastLoad(199), TrainingDiary::formOn, 0, 0, 1, -119, 2, -99, 24, 17, 199, 17, 200, RANGE);
            dueWith(() -> withLeastLoadToday(199), TrainingDiary::formOn, 0, 0, 198, 0, 199, 0);
            dueWith(() -> withLeastLoadToday(198), d -> d.pass(1), TrainingDiary::formOn, 198, 0, 199, -119);
        });
        sentence("Returns the form, which can be negative.", () -> {
            TrainingDiary d = withGreatestLoad();
            d.pass(1);
            due("lowest behind one day", 22857142 - 137142857, () -> d.formOn(1));
            due("the day before", 0, () -> d.formOn(0));
        });
        sentence(NO_DAY, () -> refusedWith(Diaries::rich, RANGE, TrainingDiary::formOn, NO_DAYS_OF_RICH));
    }

    private void dueWith(Supplier<TrainingDiary> diary, Asked change, AskedWith call, Object... valuesAndAnswers) {
        dueWith(() -> {
            TrainingDiary d = diary.get();
            change.of(d);
            return d;
        }, call, valuesAndAnswers);
    }

    private void bestFormDay() {
        promise(32);
        sentence("Returns the day from 0 to today on which the form is greatest; of several, the first one.", () -> {
            due("only the day 0", 0, () -> new TrainingDiary().bestFormDay());
            due("all days without load", 0, () -> Diaries.on(199).bestFormDay());
            due("a load today", 0, () -> withLeastLoadToday(199).bestFormDay());
            due("no other day has a form of 0", 0, () -> withLeastLoad(1).bestFormDay());
            // The form is -1 on the day 13, 2 on 14, 5 on 15 .. and 17 from the day 24 on.
            due("still below 0", 0, () -> withLeastLoad(13).bestFormDay());
            due("above 0", 14, () -> withLeastLoad(14).bestFormDay());
            due("before the greatest form", 23, () -> withLeastLoad(23).bestFormDay());
            due("today, for the first time", 24, () -> withLeastLoad(24).bestFormDay());
            due("today is the second", 24, () -> withLeastLoad(25).bestFormDay());
            due("the first of many", 24, () -> withLeastLoad(199).bestFormDay());
            TrainingDiary negative = new TrainingDiary();
            Diaries.session(negative, 0, 1, 0);
            negative.pass(3);
            due("all others are negative", 0, negative::bestFormDay);
            TrainingDiary little = Diaries.on(15);
            Diaries.session(little, 0, 6, 0);
            Diaries.session(little, 1, 2, 0);
            due("only just above 0", 1, () -> little.formOn(15));
            due("which is greater than that of the day 0", 15, little::bestFormDay);
        });
    }

    private void daysToFormArguments() {
        promise(33);
        sentence("- `form`: the wanted form, -100000 to 100000", () -> {
            dueWith(TrainingDiary::new, TrainingDiary::daysToForm, -100000, 0, 0, 0, 100000, THERE);
            due("least, behind a great load", daysToFormBySums(-100000), () -> behindGreatLoad().daysToForm(-100000));
            due("greatest, behind a great load", daysToFormBySums(100000), () -> behindGreatLoad().daysToForm(100000));
            due("the greatest takes longer", true, () -> daysToFormBySums(100000) > daysToFormBySums(-100000) && daysToFormBySums(-100000) > 5);
        });
        sentence("Throws `IllegalArgumentException` if the form is out of range", () ->
                refusedWith(Diaries::rich, RANGE, TrainingDiary::daysToForm, -100001, 100001, MIN, MAX));
    }

    /** A load of 24000 on the day 0; today is the day 1. */
    private static TrainingDiary behindGreatLoad() {
        TrainingDiary d = new TrainingDiary();
        d.setWeight(5, 100);
        Diaries.session(d, 0, 120, 500, 120, 500);
        d.pass(1);
        return d;
    }

    private static int daysToFormBySums(int form) {
        int fitness = 24000000 / 42;
        int fatigue = 24000000 / 7;
        int days = 0;
        while (fitness - fatigue < form && days < 1000) {
            fitness -= fitness / 42;
            fatigue -= fatigue / 7;
            days++;
        }
        return days;
    }

    private void daysToFormAnswer() {
        promise(33);
        sentence("Returns the number of days, 0 if the form of today is at least the wanted one.", () -> {
            dueWith(() -> withLeastLoad(0), TrainingDiary::daysToForm, -1, 0, 0, 0, 1, 14, 2, 14, 3, 15, 16, 23, 17, 24);
            dueWith(() -> withLeastLoad(1), TrainingDiary::daysToForm, -120, 0, -119, 0, -118, 1, -99, 1, -98, 2, 17, 23);
            dueWith(() -> withLeastLoad(24), TrainingDiary::daysToForm, 17, 0, 16, 0);
            dueWith(() -> withLeastLoadToday(199), TrainingDiary::daysToForm, 0, 0, 17, 24);
        });
        sentence("Throws `NoSuchElementException` if this is not so after any number of days up to 200", () -> {
            refusedWith(TrainingDiary::new, THERE, TrainingDiary::daysToForm, 1, 100000);
            refusedWith(() -> withLeastLoad(0), THERE, TrainingDiary::daysToForm, 18, 100000);
            refusedWith(() -> withLeastLoad(199), THERE, TrainingDiary::daysToForm, 18, 100000);
            refusedWith(Diaries::rich, THERE, TrainingDiary::daysToForm, 100000);
        });
        sentence("if there are no more sessions after today.", () -> {
            TrainingDiary d = withLeastLoad(23);
            due("without a session today", 1, () -> d.daysToForm(17));
            Diaries.session(d, 23, 1, 0);
            // The fitness is 46, 45, 44, 43, 42, 41, 41 .., the fatigue 148, 127, 109, 94, 81, 70, 60, 52, 45, 39, 34, 30, 26, 23.
            due("with a session today", 14, () -> d.daysToForm(17));
            due("the form of today is before it", 0, () -> d.daysToForm(16));
            d.moveSession(1, 22);
            due("a session of yesterday counts in the form of today", -103, () -> d.formOn(23));
        });
    }
}
