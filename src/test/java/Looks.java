import java.util.ArrayList;
import java.util.List;
import java.util.StringJoiner;
import java.util.function.BiFunction;
import java.util.function.Function;

/** What a desk tells to those who look: texts that two desks are compared by. */
final class Looks {
    private static final int[] MESSAGES = {0, 1, 2, 3, 4, 5, 6, 7, 8, 79, 80};
    private static final int[] KEYS = {0, 20, 21, 24, 25, 26, 700, 998, 999, 1000, 1020, 1030, 1031};
    private static final int[] STATES = {'h', 'w', 't', 'd', 'x', 'r'};
    private static final int[] EACH_OF_NINE = {0, 1, 2, 3, 4, 5, 6, 7, 8};
    // No desk may have more than 512 calls, so not every place is looked at.
    private static final int[] PLACES = {0, 1, 2, 3, 79};

    private Looks() {
    }

    /** Each call that only looks, with some numbers that are there and some that are not. */
    static List<Function<DunningDesk, String>> all() {
        List<Function<DunningDesk, String>> looks = new ArrayList<>();
        looks.add(atEach(EACH_OF_NINE, DunningDesk::amount));
        looks.add(atEach(EACH_OF_NINE, DunningDesk::letters));
        looks.add(atEach(EACH_OF_NINE, DunningDesk::lettersByMessages));
        looks.add(atEach(EACH_OF_NINE, DunningDesk::nextReminder));
        looks.add(atEach(KEYS, DunningDesk::withKey));
        looks.add(atEach(MESSAGES, DunningDesk::state));
        looks.add(atEach(MESSAGES, DunningDesk::kind));
        looks.add(atEach(MESSAGES, DunningDesk::tries));
        looks.add(atEach(MESSAGES, DunningDesk::readyAt));
        looks.add(atEach(EACH_OF_NINE, DunningDesk::ready));
        for (int i = 0; i < 4; i++) {
            int queue = i;
            looks.add(atEach(PLACES, (desk, place) -> desk.readyAtPlace(queue, place)));
        }
        looks.add(atEach(MESSAGES, DunningDesk::clerk));
        looks.add(atEach(EACH_OF_NINE, DunningDesk::has));
        looks.add(desk -> String.valueOf(desk.day()));
        looks.add(atEach(STATES, (desk, state) -> desk.count((char) (int) state)));
        looks.add(desk -> Checks.told(desk::doneShare));
        looks.add(desk -> Checks.told(desk::meanAmount));
        return looks;
    }

    /** The answers up to the first number that there is not. */
    private static Function<DunningDesk, String> atEach(int[] numbers, BiFunction<DunningDesk, Integer, Object> look) {
        return desk -> {
            StringJoiner answers = new StringJoiner(" ");
            String answer = "";
            for (int i = 0; i < numbers.length && !isOutside(answer); i++) {
                int number = numbers[i];
                answer = Checks.told(() -> look.apply(desk, number));
                answers.add(answer);
            }
            return answers.toString();
        };
    }

    private static boolean isOutside(String answer) {
        return answer.equals("throws.IndexOutOfBoundsException") || answer.equals("throws.IllegalArgumentException");
    }

    /** All looks, a line for each. */
    static String seen(DunningDesk desk) {
        StringJoiner seen = new StringJoiner("\n");
        for (Function<DunningDesk, String> look : all()) {
            seen.add(look.apply(desk));
        }
        return seen.toString();
    }

    /** What the desk tells when it is used further, where all that it kept shows. */
    static String later(DunningDesk desk) {
        StringJoiner told = new StringJoiner("\n");
        told.add(Checks.told(() -> desk.pass(4))).add(seen(desk));
        told.add(Checks.told(() -> desk.open(60, 1))).add(Checks.told(() -> desk.open(61, 1)));
        for (int i = 0; i < 4; i++) {
            int number = i;
            told.add(Checks.told(() -> desk.post(2, 700 + number, 'n', number, 0, 0)));
            told.add(Checks.told(() -> desk.finish(desk.take(0, 2))));
        }
        told.add(Checks.told(() -> desk.pass(7)));
        for (int i = 0; i < 4; i++) {
            int clerk = i;
            told.add(Checks.told(() -> desk.take(clerk, clerk % 3)));
        }
        return told.add(seen(desk)).toString();
    }
}
