import java.util.NoSuchElementException;
import java.util.function.Function;
import java.util.function.Supplier;

/** Each exception of each method, which one comes first, and that a refused call leaves no trace. */
final class RefusalsTest {
    private static final int[] NO_CASES = {-1, 3, 7, 8, Integer.MIN_VALUE, Integer.MAX_VALUE};
    private static final int[] NO_MESSAGES = {-1, 8, 79, 80, Integer.MIN_VALUE, Integer.MAX_VALUE};
    private static final int[] NO_QUEUES = {-1, 3, Integer.MIN_VALUE, Integer.MAX_VALUE};
    private static final int[] NO_CLERKS = {-1, 4, Integer.MIN_VALUE, Integer.MAX_VALUE};

    private RefusalsTest() {
    }

    /** Compares a desk that refused the call with one that never had it, at once and later on. */
    private static void refused(Class<? extends RuntimeException> due, Supplier<DunningDesk> start,
            Function<DunningDesk, Object> call) {
        DunningDesk desk = start.get();
        DunningDesk untouched = start.get();
        Checks.refused(due, () -> call.apply(desk));
        Checks.same(Desks.seen(untouched, 4, 9), Desks.seen(desk, 4, 9));
        Checks.same(later(untouched), later(desk));
    }

    private static void refused(Class<? extends RuntimeException> due, Function<DunningDesk, Object> call) {
        refused(due, Desks::mixed, call);
    }

    private static String later(DunningDesk desk) {
        StringBuilder told = new StringBuilder();
        told.append(Checks.told(() -> desk.pass(4))).append(' ').append(Desks.seen(desk, 4, 9));
        told.append(Checks.told(() -> desk.open(60, 1))).append(Checks.told(() -> desk.pass(7)));
        for (int clerk = 0; clerk < 4; clerk++) {
            int taker = clerk;
            told.append(' ').append(Checks.told(() -> desk.take(taker, taker % 3)));
        }
        return told.append(' ').append(Desks.seen(desk, 4, 9)).toString();
    }

    private static DunningDesk fullOfCases() {
        DunningDesk desk = Desks.mixed();
        for (int number = 3; number < 8; number++) {
            desk.open(100, 50);
        }
        return desk;
    }

    private static DunningDesk fullOfMessages() {
        return Desks.withPayments(80);
    }

    private static DunningDesk lastDays() {
        DunningDesk desk = Desks.mixed();
        for (int i = 0; i < 32; i++) {
            desk.pass(30);
        }
        desk.pass(15);
        return desk;
    }

    static void promise02Open() {
        int[] noAmounts = {0, -1, 10000, Integer.MIN_VALUE, Integer.MAX_VALUE};
        int[] noDays = {-1, 1000, Integer.MIN_VALUE, Integer.MAX_VALUE};
        for (int amount : noAmounts) {
            refused(IllegalArgumentException.class, desk -> desk.open(amount, 5));
            refused(IllegalArgumentException.class, RefusalsTest::fullOfCases, desk -> desk.open(amount, 5));
        }
        for (int due : noDays) {
            refused(IllegalArgumentException.class, desk -> desk.open(5, due));
            refused(IllegalArgumentException.class, RefusalsTest::fullOfCases, desk -> desk.open(5, due));
        }
        refused(IllegalStateException.class, RefusalsTest::fullOfCases, desk -> desk.open(5, 5));
    }

    static void promise03Amount() {
        for (int number : NO_CASES) {
            refused(IndexOutOfBoundsException.class, desk -> desk.amount(number));
        }
    }

    static void promise04Pause() {
        int[] noDays = {0, -1, 61, Integer.MIN_VALUE, Integer.MAX_VALUE};
        for (int number : NO_CASES) {
            refused(IndexOutOfBoundsException.class, desk -> desk.pause(number, 5));
            refused(IndexOutOfBoundsException.class, desk -> desk.pause(number, 0));
        }
        for (int days : noDays) {
            refused(IllegalArgumentException.class, desk -> desk.pause(0, days));
            refused(IllegalArgumentException.class, desk -> desk.pause(1, days));
        }
        refused(IllegalStateException.class, desk -> desk.pause(1, 5));
    }

    static void promise05AwaitNote() {
        for (int number : NO_CASES) {
            refused(IndexOutOfBoundsException.class, desk -> desk.awaitNote(number));
        }
        refused(IllegalStateException.class, desk -> desk.awaitNote(1));
    }

    static void promise06Letters() {
        for (int number : NO_CASES) {
            refused(IndexOutOfBoundsException.class, desk -> desk.letters(number));
        }
    }

    static void promise07LettersByMessages() {
        for (int number : NO_CASES) {
            refused(IndexOutOfBoundsException.class, desk -> desk.lettersByMessages(number));
        }
    }

    static void promise08NextReminder() {
        for (int number : NO_CASES) {
            refused(IndexOutOfBoundsException.class, desk -> desk.nextReminder(number));
        }
        for (int number = 0; number < 3; number++) {
            int none = number;
            refused(NoSuchElementException.class, desk -> desk.nextReminder(none));
        }
    }

    /** Key 22 is there in the mixed desk, key 5 in the one that is full of messages. */
    private static void postRefused(int queue, int key, char kind, int number, int value, int delay) {
        refused(IllegalArgumentException.class, desk -> desk.post(queue, key, kind, number, value, delay));
        refused(IllegalArgumentException.class, RefusalsTest::fullOfMessages,
            desk -> desk.post(queue, key, kind, number, value, delay));
    }

    static void promise09Post() {
        int[] keys = {22, 5, 500};
        for (int key : keys) {
            for (int queue : NO_QUEUES) {
                postRefused(queue, key, 'p', 0, 1, 0);
            }
            for (int number : new int[] {-1, 8, Integer.MIN_VALUE, Integer.MAX_VALUE}) {
                postRefused(1, key, 'n', number, 1, 0);
            }
            for (int value : new int[] {-1, 10000, Integer.MIN_VALUE, Integer.MAX_VALUE}) {
                postRefused(1, key, 'p', 0, value, 0);
                postRefused(1, key, 'n', 0, value, 0);
            }
            for (int delay : new int[] {-1, 31, Integer.MIN_VALUE, Integer.MAX_VALUE}) {
                postRefused(1, key, 'p', 0, 1, delay);
            }
            for (char kind : new char[] {'r', 'P', 'q', 'o', 0, '\uffff'}) {
                postRefused(1, key, kind, 0, 1, 0);
            }
        }
        for (int key : new int[] {-1, 1000, 1020, Integer.MIN_VALUE, Integer.MAX_VALUE}) {
            postRefused(1, key, 'p', 0, 1, 0);
        }
        refused(IllegalStateException.class, RefusalsTest::fullOfMessages,
            desk -> desk.post(1, 80, 'p', 0, 1, 0));
    }

    static void promise10WithKey() {
        refused(NoSuchElementException.class, desk -> desk.withKey(19));
    }

    static void promise11State() {
        for (int message : NO_MESSAGES) {
            refused(IndexOutOfBoundsException.class, desk -> desk.state(message));
        }
        refused(IndexOutOfBoundsException.class, RefusalsTest::fullOfMessages, desk -> desk.state(80));
    }

    static void promise12Kind() {
        for (int message : NO_MESSAGES) {
            refused(IndexOutOfBoundsException.class, desk -> desk.kind(message));
        }
        refused(IndexOutOfBoundsException.class, RefusalsTest::fullOfMessages, desk -> desk.kind(80));
    }

    static void promise13Tries() {
        for (int message : NO_MESSAGES) {
            refused(IndexOutOfBoundsException.class, desk -> desk.tries(message));
        }
        refused(IndexOutOfBoundsException.class, RefusalsTest::fullOfMessages, desk -> desk.tries(80));
    }

    static void promise14ReadyAt() {
        for (int message : NO_MESSAGES) {
            refused(IndexOutOfBoundsException.class, desk -> desk.readyAt(message));
        }
        for (int message : new int[] {0, 1, 2, 4, 5, 6}) {
            refused(IllegalStateException.class, desk -> desk.readyAt(message));
        }
    }

    static void promise15Ready() {
        for (int queue : NO_QUEUES) {
            refused(IllegalArgumentException.class, desk -> desk.ready(queue));
        }
    }

    static void promise16ReadyAtPlace() {
        for (int queue : NO_QUEUES) {
            refused(IllegalArgumentException.class, desk -> desk.readyAtPlace(queue, 0));
            refused(IllegalArgumentException.class, desk -> desk.readyAtPlace(queue, -1));
        }
        for (int place : new int[] {-1, 1, 80, Integer.MIN_VALUE, Integer.MAX_VALUE}) {
            refused(NoSuchElementException.class, desk -> desk.readyAtPlace(1, place));
        }
    }

    static void promise17Take() {
        for (int clerk : NO_CLERKS) {
            refused(IllegalArgumentException.class, desk -> desk.take(clerk, 1));
            refused(IllegalArgumentException.class, desk -> desk.take(clerk, 0));
        }
        for (int queue : NO_QUEUES) {
            refused(IllegalArgumentException.class, desk -> desk.take(0, queue));
            refused(IllegalArgumentException.class, desk -> desk.take(1, queue));
        }
        refused(IllegalStateException.class, desk -> desk.take(1, 1));
        refused(IllegalStateException.class, desk -> desk.take(1, 0));
        refused(NoSuchElementException.class, desk -> desk.take(0, 0));
        refused(NoSuchElementException.class, desk -> desk.take(3, 2));
    }

    static void promise18Finish() {
        for (int message : NO_MESSAGES) {
            refused(IndexOutOfBoundsException.class, desk -> desk.finish(message));
        }
        for (int message : new int[] {0, 1, 3, 4, 5, 7}) {
            refused(IllegalStateException.class, desk -> desk.finish(message));
        }
    }

    static void promise19HandBack() {
        for (int message : NO_MESSAGES) {
            refused(IndexOutOfBoundsException.class, desk -> desk.handBack(message));
        }
        for (int message : new int[] {0, 1, 3, 4, 5, 7}) {
            refused(IllegalStateException.class, desk -> desk.handBack(message));
        }
    }

    static void promise20Revive() {
        for (int message : NO_MESSAGES) {
            refused(IndexOutOfBoundsException.class, desk -> desk.revive(message));
        }
        for (int message : new int[] {0, 2, 3, 4, 5, 6, 7}) {
            refused(IllegalStateException.class, desk -> desk.revive(message));
        }
    }

    static void promise21Clerk() {
        for (int message : NO_MESSAGES) {
            refused(IndexOutOfBoundsException.class, desk -> desk.clerk(message));
        }
        for (int message : new int[] {0, 1, 3, 4, 5, 7}) {
            refused(NoSuchElementException.class, desk -> desk.clerk(message));
        }
    }

    static void promise22Has() {
        for (int clerk : NO_CLERKS) {
            refused(IllegalArgumentException.class, desk -> desk.has(clerk));
        }
    }

    static void promise23Pass() {
        for (int days : new int[] {0, -1, 31, Integer.MIN_VALUE, Integer.MAX_VALUE}) {
            refused(IllegalArgumentException.class, desk -> desk.pass(days));
        }
        Checks.same(981, lastDays().day());
        for (int days : new int[] {19, 30, 31, 0}) {
            refused(IllegalArgumentException.class, RefusalsTest::lastDays, desk -> desk.pass(days));
        }
        Checks.same(0, lastDays().pass(18));
    }

    static void promise25Count() {
        for (char state : new char[] {'g', 'H', 'r', 0, '\uffff'}) {
            refused(IllegalArgumentException.class, desk -> desk.count(state));
        }
    }

    static void promise26DoneShare() {
        Checks.refused(ArithmeticException.class, () -> Desks.withCase(5, 5).doneShare());
    }

    static void promise27MeanAmount() {
        DunningDesk desk = new DunningDesk();
        desk.post(0, 1, 'p', 0, 5, 0);
        Checks.refused(ArithmeticException.class, desk::meanAmount);
        desk.open(5, 5);
        desk.take(0, 0);
        desk.finish(0);
        Checks.refused(ArithmeticException.class, desk::meanAmount);
    }
}
