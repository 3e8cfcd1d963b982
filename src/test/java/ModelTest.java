import java.lang.reflect.InvocationTargetException;
import java.lang.reflect.Method;
import java.util.ArrayList;
import java.util.Comparator;
import java.util.List;
import java.util.Set;

/** Runs of 512 calls, each compared with PlainDiary; the same runs each time. */
public final class ModelTest {
    private static final int RUNS = 400;
    private static final int CALLS = 512;
    private static final Set<String> MODIFYING = Set.of("pass", "addTest", "removeTest", "setBound", "setWeight", "addSession",
            "addPart", "clearParts", "moveSession", "removeSession", "startPlan", "addTarget");
    private static final Set<String> GROWING = Set.of("addSession", "addPart", "addTarget");
    private static final Set<String> GOING_BACK = Set.of("undo", "restore", "save");

    private final Checks checks = new Checks();
    private final List<Method> methods = new ArrayList<>();
    private long chance = 1;

    public static void main(String[] args) throws Exception {
        ModelTest test = new ModelTest();
        for (Method method : TrainingDiary.class.getDeclaredMethods()) {
            if (java.lang.reflect.Modifier.isPublic(method.getModifiers())) {
                test.methods.add(method);
            }
        }
        test.methods.sort(Comparator.comparing(Method::getName));
        for (int run = 0; run < RUNS && test.checks.wrong() < 10; run++) {
            test.run(run);
        }
        test.checks.end("ModelTest");
    }

    /** A number from 0 to the bound minus 1, from a fixed row. */
    private int next(int bound) {
        chance = chance * 6364136223846793005L + 1442695040888963407L;
        return (int) ((chance >>> 33) % bound);
    }

    private void run(int run) throws Exception {
        chance = run + 1;
        TrainingDiary diary = new TrainingDiary();
        PlainDiary plain = new PlainDiary();
        List<Method> bag = bag(run);
        int longestPass = run % 3 == 0 ? 2 : 30;
        int busyDays = run % 4 == 0 ? 3 : 200;
        for (int call = 0; call < CALLS; call++) {
            Method method = bag.get(next(bag.size()));
            Object[] arguments = arguments(method, plain, longestPass, busyDays);
            Method same = PlainDiary.class.getDeclaredMethod(method.getName(), method.getParameterTypes());
            String due = Checks.told(() -> invoke(same, plain, arguments));
            String what = "run " + run + ", call " + call + ": " + method.getName() + List.of(arguments);
            checks.due(what, due, () -> invoke(method, diary, arguments));
        }
    }

    /** Some runs mostly grow, some change, some read, and some go back and forth. */
    private List<Method> bag(int run) {
        List<Method> bag = new ArrayList<>();
        for (Method method : methods) {
            String name = method.getName();
            int times = 1;
            times += MODIFYING.contains(name) ? run % 5 : 0;
            times += GROWING.contains(name) ? 3 + 4 * (run % 4) : 0;
            times += GOING_BACK.contains(name) && run % 2 == 0 ? 4 : 0;
            times += name.equals("pass") && run % 3 == 0 ? 4 : 0;
            times += name.equals("addTest") ? 3 : 0;
            times += name.equals("lineAt") || name.equals("writeWeek") ? 2 : 0;
            for (int i = 0; i < times; i++) {
                bag.add(method);
            }
        }
        return bag;
    }

    private Object[] arguments(Method method, PlainDiary plain, int longestPass, int busyDays) {
        Object[] arguments = new Object[method.getParameterCount()];
        for (int i = 0; i < arguments.length; i++) {
            arguments[i] = next(60) == 0 ? oddNumber() : usualNumber(method.getName(), i, plain, longestPass, busyDays);
        }
        return arguments;
    }

    private int oddNumber() {
        int[] odd = {Integer.MIN_VALUE, Integer.MAX_VALUE, Integer.MIN_VALUE + 1, Integer.MAX_VALUE - 1, -1, -7, 0, 199, 200, 241, 1000000};
        return odd[next(odd.length)];
    }

    private int usualNumber(String name, int place, PlainDiary plain, int longestPass, int busyDays) {
        switch (name) {
            case "pass":
                return 1 + next(longestPass) + next(40) / 39;
            case "addTest":
                return place == 0 ? day(plain, busyDays) : 49 + next(353);
            case "setBound":
                return place == 0 ? 1 + next(6) : next(6) == 0 ? next(302) : 60 + next(70);
            case "setWeight":
                return place == 0 ? next(7) : next(12) - 1;
            case "zoneOf":
                return place == 0 ? next(201) : next(502);
            case "addPart":
                return place == 0 ? id(plain) : place == 1 ? (next(3) == 0 ? next(122) : 1 + next(20)) : next(3) == 0 ? next(502) : 100 + next(200);
            case "clearParts":
            case "removeSession":
            case "dayOf":
            case "minutesOf":
            case "loadOf":
                return id(plain);
            case "moveSession":
                return place == 0 ? id(plain) : day(plain, busyDays);
            case "minutesInZone":
                return place == 0 ? id(plain) : next(7);
            case "zoneShare":
            case "boundOf":
            case "weightOf":
                return next(7);
            case "sessionAt":
                return next(plain.sessionCount() + 2) - 1;
            case "daysToForm":
                return next(4) == 0 ? next(200003) - 100001 : plain.formOn(plain.today()) + next(20001) - 9000;
            case "bestDays":
            case "bestDaysByTrying":
            case "bestDaysStart":
                return next(3) == 0 ? next(62) : 1 + next(8);
            case "bestEffort":
            case "bestEffortByTrying":
            case "bestEffortSession":
                return next(3) == 0 ? next(242) : 1 + next(40);
            case "addTarget":
                return next(20) == 0 ? next(20002) : next(300);
            case "targetAt":
                return next(30) - 1;
            case "lineAt":
                return next(15) - 1;
            default:
                return day(plain, busyDays);
        }
    }

    /** Mostly a day up to today; when days are busy, one of the few before today. */
    private int day(PlainDiary plain, int busyDays) {
        int today = plain.today();
        if (next(15) == 0) {
            return today + next(3) - 1;
        }
        return today - next(Math.min(today + 1, busyDays));
    }

    private int id(PlainDiary plain) {
        int count = plain.sessionCount();
        return count == 0 || next(12) == 0 ? next(60) : plain.sessionAt(next(count));
    }

    private static Object invoke(Method method, Object on, Object[] arguments) {
        try {
            return method.invoke(on, arguments);
        } catch (InvocationTargetException e) {
            if (e.getCause() instanceof RuntimeException thrown) {
                throw thrown;
            }
            throw new AssertionError(e.getCause());
        } catch (IllegalAccessException e) {
            throw new AssertionError(e);
        }
    }
}
