import java.util.function.Supplier;

/** Tests of sentences of the document, one by one. */
abstract class Edges {
    static final int MIN = Integer.MIN_VALUE;
    static final int MAX = Integer.MAX_VALUE;
    static final String RANGE = "throws.IllegalArgumentException";
    static final String STATE = "throws.IllegalStateException";
    static final String THERE = "throws.NoSuchElementException";
    static final String INDEX = "throws.IndexOutOfBoundsException";

    interface Asked {
        Object of(TrainingDiary diary);
    }

    interface AskedWith {
        Object of(TrainingDiary diary, int value);
    }

    private final Sentences sentences;
    private final Checks checks;
    private String section = "";

    Edges(Sentences sentences, Checks checks) {
        this.sentences = sentences;
        this.checks = checks;
    }

    abstract void test();

    final void promise(int number) {
        section = "Promise " + number;
    }

    final void terms(String title) {
        section = title;
    }

    final void sentence(String sentence, Runnable test) {
        checks.due("it stands in the document", true, () -> sentences.note(section, sentence));
        int wrong = checks.wrong();
        int checked = checks.checked();
        test.run();
        checks.due("something is checked", true, () -> checks.checked() > checked);
        if (checks.wrong() > wrong) {
            System.out.println("  which is " + section + ": " + sentence);
        }
    }

    final void due(String what, Object due, Checks.Call call) {
        checks.due(what, due, call);
    }

    /** Each value, on a diary of its own, has the answer behind it. */
    final void dueWith(Supplier<TrainingDiary> diary, AskedWith call, Object... valuesAndAnswers) {
        for (int i = 0; i + 1 < valuesAndAnswers.length; i += 2) {
            int value = (Integer) valuesAndAnswers[i];
            checks.due("with " + value, valuesAndAnswers[i + 1], () -> call.of(diary.get(), value));
        }
    }

    /** The call throws, and afterwards all is as in a diary that has not been asked. */
    final void refused(Supplier<TrainingDiary> diary, String exception, Asked call) {
        TrainingDiary asked = diary.get();
        checks.due("the call", exception, () -> call.of(asked));
        checks.due("all after it", Diaries.picture(diary.get()), () -> Diaries.picture(asked));
    }

    final void refusedWith(Supplier<TrainingDiary> diary, String exception, AskedWith call, int... values) {
        for (int value : values) {
            TrainingDiary asked = diary.get();
            checks.due("with " + value, exception, () -> call.of(asked, value));
            checks.due("all after " + value, Diaries.picture(diary.get()), () -> Diaries.picture(asked));
        }
    }
}
