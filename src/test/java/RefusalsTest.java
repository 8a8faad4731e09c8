import java.util.NoSuchElementException;
import java.util.function.BiFunction;
import java.util.function.Function;
import java.util.function.Supplier;

/** Each exception of each method, which one comes first, and that a refused call leaves no trace. */
final class RefusalsTest {
    private static final int[] NO_CASES = {-1, 4, 7, 8, Integer.MIN_VALUE, Integer.MAX_VALUE};
    private static final int[] NO_MESSAGES = {-1, 8, 79, 80, Integer.MIN_VALUE, Integer.MAX_VALUE};
    private static final int[] NO_QUEUES = {-1, 3, Integer.MIN_VALUE, Integer.MAX_VALUE};
    private static final int[] NO_CLERKS = {-1, 4, Integer.MIN_VALUE, Integer.MAX_VALUE};

    private RefusalsTest() {
    }

    /** Compares a desk that refused the call with one that never had it, at once and later on. */
    private static void refused(Class<? extends RuntimeException> due, Supplier<DunningDesk> start,
            Function<DunningDesk, Object> call) {
        DunningDesk desk = start.get();
        DunningDesk untouched = start.get();
        Checks.refused(due, () -> call.apply(desk));
        Checks.same(Looks.seen(untouched), Looks.seen(desk));
        Checks.same(Looks.later(untouched), Looks.later(desk));
    }

    private static void refused(Class<? extends RuntimeException> due, Function<DunningDesk, Object> call) {
        refused(due, Desks::mixed, call);
    }

    /** On the mixed desk and on an empty one. */
    private static void noCase(BiFunction<DunningDesk, Integer, Object> call) {
        for (int number : NO_CASES) {
            refused(IndexOutOfBoundsException.class, desk -> call.apply(desk, number));
        }
        refused(IndexOutOfBoundsException.class, DunningDesk::new, desk -> call.apply(desk, 0));
        refused(IndexOutOfBoundsException.class, RefusalsTest::fullOfCases, desk -> call.apply(desk, 8));
    }

    /** On the mixed desk, an empty one and a full one. */
    private static void noMessage(BiFunction<DunningDesk, Integer, Object> call) {
        for (int message : NO_MESSAGES) {
            refused(IndexOutOfBoundsException.class, desk -> call.apply(desk, message));
        }
        refused(IndexOutOfBoundsException.class, DunningDesk::new, desk -> call.apply(desk, 0));
        refused(IndexOutOfBoundsException.class, RefusalsTest::fullOfMessages, desk -> call.apply(desk, 80));
    }

    /** On the messages of the mixed desk that are in another state. */
    private static void inAnotherState(char state, Class<? extends RuntimeException> due,
            BiFunction<DunningDesk, Integer, Object> call) {
        for (int i = 0; i < 8; i++) {
            int message = i;
            if (Desks.mixed().state(message) == state) {
                Checks.taken(() -> call.apply(Desks.mixed(), message));
            } else {
                refused(due, desk -> call.apply(desk, message));
            }
        }
    }

    /** Case 0 is paid; a message waits in queue 1, another one is taken. */
    private static DunningDesk paid() {
        DunningDesk desk = Desks.withPaidCase(5);
        desk.post(1, 1, 'n', 0, 0, 0);
        desk.post(1, 2, 'n', 0, 0, 0);
        Checks.same(1, desk.take(2, 1));
        return desk;
    }

    /** Case 0 gets its first reminder tomorrow; a message waits in queue 1, another one is taken. */
    private static DunningDesk due() {
        DunningDesk desk = Desks.withCase(100, 0);
        desk.post(1, 1, 'n', 0, 0, 0);
        desk.post(1, 2, 'n', 0, 0, 0);
        Checks.same(0, desk.take(2, 1));
        return desk;
    }

    private static DunningDesk fullOfCases() {
        DunningDesk desk = Desks.mixed();
        for (int number = 4; number < 8; number++) {
            desk.open(100, 50);
        }
        return desk;
    }

    /** Case 1 gets its first reminder when there is room; message 0 is taken. */
    private static DunningDesk fullOfMessages() {
        DunningDesk desk = Desks.withPayments(80);
        Checks.same(1, desk.open(100, 0));
        Checks.same(0, desk.take(3, 1));
        return desk;
    }

    private static DunningDesk lastDays() {
        DunningDesk desk = Desks.mixed();
        for (int i = 0; i < 32; i++) {
            desk.pass(30);
        }
        desk.pass(15);
        return desk;
    }

    @Says("Throws `IllegalArgumentException` if a number is out of range")
    static void promise02NumberOutOfRange() {
        for (int amount : new int[] {0, -1, 10000, Integer.MIN_VALUE, Integer.MAX_VALUE}) {
            refused(IllegalArgumentException.class, desk -> desk.open(amount, 5));
            refused(IllegalArgumentException.class, RefusalsTest::fullOfCases, desk -> desk.open(amount, 5));
        }
        for (int due : new int[] {-1, 1000, Integer.MIN_VALUE, Integer.MAX_VALUE}) {
            refused(IllegalArgumentException.class, desk -> desk.open(5, due));
            refused(IllegalArgumentException.class, RefusalsTest::fullOfCases, desk -> desk.open(5, due));
        }
    }

    @Says("Throws `IllegalStateException` if there are 8 cases")
    static void promise02EightCases() {
        refused(IllegalStateException.class, RefusalsTest::fullOfCases, desk -> desk.open(5, 5));
        Checks.same(7, Desks.withCases(7).open(5, 5));
        DunningDesk paid = Desks.withCases(8);
        Checks.yes(Desks.postedAndFinished(paid, 1, 'p', 0, 10));
        Checks.refused(IllegalStateException.class, () -> paid.open(5, 5));
    }

    @Says("Throws `IndexOutOfBoundsException` if there is no such case")
    static void promise03NoSuchCase() {
        noCase(DunningDesk::amount);
    }

    @Says("Throws `IndexOutOfBoundsException` if there is no such case")
    static void promise04NoSuchCase() {
        noCase((desk, number) -> desk.pause(number, 5));
        noCase((desk, number) -> desk.pause(number, 0));
    }

    @Says("Throws `IllegalArgumentException` if the number of days is out of range")
    static void promise04DaysOutOfRange() {
        for (int days : new int[] {0, -1, 61, Integer.MIN_VALUE, Integer.MAX_VALUE}) {
            refused(IllegalArgumentException.class, RefusalsTest::due, desk -> desk.pause(0, days));
            refused(IllegalArgumentException.class, RefusalsTest::paid, desk -> desk.pause(0, days));
        }
    }

    @Says("Throws `IllegalStateException` if it is not open")
    static void promise04CaseNotOpen() {
        refused(IllegalStateException.class, RefusalsTest::paid, desk -> desk.pause(0, 1));
        refused(IllegalStateException.class, RefusalsTest::paid, desk -> desk.pause(0, 60));
    }

    @Says("Throws `IndexOutOfBoundsException` if there is no such case")
    static void promise05NoSuchCase() {
        noCase(DunningDesk::awaitNote);
    }

    @Says("Throws `IllegalStateException` if it is not open")
    static void promise05CaseNotOpen() {
        refused(IllegalStateException.class, RefusalsTest::paid, desk -> desk.awaitNote(0));
    }

    @Says("Throws `IndexOutOfBoundsException` if there is no such case")
    static void promise06NoSuchCase() {
        noCase(DunningDesk::letters);
    }

    @Says("Throws `IndexOutOfBoundsException` if there is no such case")
    static void promise07NoSuchCase() {
        noCase(DunningDesk::lettersByMessages);
    }

    @Says("Throws `IndexOutOfBoundsException` if there is no such case")
    static void promise08NoSuchCase() {
        noCase(DunningDesk::nextReminder);
    }

    @Says("Throws `NoSuchElementException` if none would be, as it is not open,")
    static void promise08CaseNotOpen() {
        refused(NoSuchElementException.class, RefusalsTest::paid, desk -> desk.nextReminder(0));
        DunningDesk owesOne = Desks.withCase(2, 5);
        Desks.postedAndFinished(owesOne, 1, 'p', 0, 1);
        Checks.same(6, owesOne.nextReminder(0));
    }

    @Says("waits for a note,")
    static void promise08CaseWaitsForANote() {
        refused(NoSuchElementException.class, RefusalsTest::waiting, desk -> desk.nextReminder(0));
        DunningDesk desk = waiting();
        Desks.postedAndFinished(desk, 1, 'n', 0, 0);
        Checks.same(101, desk.nextReminder(0));
    }

    private static DunningDesk waiting() {
        DunningDesk desk = Desks.withCases(1);
        Checks.no(desk.awaitNote(0));
        return desk;
    }

    @Says("has 3 letters,")
    static void promise08CaseHasThreeLetters() {
        Checks.same(15, reminded(2).nextReminder(0));
        refused(NoSuchElementException.class, () -> reminded(3), desk -> desk.nextReminder(0));
    }

    /** Case 0, due on day 0, has this number of letters, each sent on the earliest day. */
    private static DunningDesk reminded(int letters) {
        DunningDesk desk = Desks.withCase(100, 0);
        for (int step = 0; step < letters; step++) {
            Checks.same(1, desk.pass(step == 0 ? 1 : 7));
            Checks.yes(Desks.reminded(desk, 0, step));
        }
        return desk;
    }

    @Says("or there is a message with the key of its next step")
    static void promise08NextStepIsPosted() {
        for (int step = 0; step < 3; step++) {
            int letters = step;
            refused(NoSuchElementException.class, () -> {
                DunningDesk desk = reminded(letters);
                Checks.same(1, desk.pass(7));
                return desk;
            }, desk -> desk.nextReminder(0));
        }
    }

    /** Key 22 is there in the mixed desk, key 5 in the one that is full of messages. */
    private static void postRefused(int queue, int key, char kind, int number, int value, int delay) {
        refused(IllegalArgumentException.class, desk -> desk.post(queue, key, kind, number, value, delay));
        refused(IllegalArgumentException.class, RefusalsTest::fullOfMessages,
            desk -> desk.post(queue, key, kind, number, value, delay));
    }

    @Says("Throws `IllegalArgumentException` if a number is out of range,")
    static void promise09NumberOutOfRange() {
        for (int key : new int[] {22, 5, 500}) {
            for (int queue : NO_QUEUES) {
                postRefused(queue, key, 'p', 0, 1, 0);
            }
            for (int number : new int[] {-1, 8, Integer.MIN_VALUE, Integer.MAX_VALUE}) {
                postRefused(1, key, 'n', number, 1, 0);
            }
            for (int value : new int[] {-1, 10000, Integer.MIN_VALUE, Integer.MAX_VALUE}) {
                postRefused(1, key, 'p', 0, value, 0);
                postRefused(1, key, 'n', 0, value, 0);
            }
            for (int delay : new int[] {-1, 31, Integer.MIN_VALUE, Integer.MAX_VALUE}) {
                postRefused(1, key, 'p', 0, 1, delay);
            }
        }
        for (int key : new int[] {-1, 1000, 1020, Integer.MIN_VALUE, Integer.MAX_VALUE}) {
            postRefused(1, key, 'p', 0, 1, 0);
        }
    }

    @Says("or there is no such kind")
    static void promise09NoSuchKind() {
        for (int key : new int[] {22, 5, 500}) {
            for (char kind : new char[] {'r', 'P', 'q', 'o', 'm', 0, '\uffff'}) {
                postRefused(1, key, kind, 0, 1, 0);
            }
        }
    }

    @Says("Throws `IllegalStateException` if there are 80 messages, and none of them has this key")
    static void promise09EightyMessages() {
        refused(IllegalStateException.class, RefusalsTest::fullOfMessages, desk -> desk.post(1, 80, 'p', 0, 1, 0));
        Checks.same(0, fullOfMessages().post(1, 0, 'p', 0, 1, 0));
        Checks.same(79, fullOfMessages().post(1, 79, 'p', 0, 1, 0));
        Checks.same(79, Desks.withPayments(79).post(1, 80, 'p', 0, 1, 0));
        DunningDesk withReminder = Desks.withPayments(79);
        withReminder.open(5, 0);
        Checks.same(1, withReminder.pass(1));
        Checks.refused(IllegalStateException.class, () -> withReminder.post(1, 80, 'p', 0, 1, 0));
        DunningDesk done = Desks.withPayments(80);
        done.take(0, 1);
        done.finish(0);
        Checks.refused(IllegalStateException.class, () -> done.post(1, 80, 'p', 0, 1, 0));
        Checks.same(0, done.post(1, 0, 'p', 0, 1, 0));
    }

    @Says("Throws `NoSuchElementException` if there is none")
    static void promise10NoSuchKey() {
        for (int key : new int[] {-1, 0, 19, 26, 1001, 1010, Integer.MIN_VALUE, Integer.MAX_VALUE}) {
            refused(NoSuchElementException.class, desk -> desk.withKey(key));
        }
        refused(NoSuchElementException.class, DunningDesk::new, desk -> desk.withKey(0));
        refused(NoSuchElementException.class, RefusalsTest::fullOfMessages, desk -> desk.withKey(80));
    }

    @Says("Throws `IndexOutOfBoundsException` if there is no such message")
    static void promise11NoSuchMessage() {
        noMessage(DunningDesk::state);
    }

    @Says("Throws `IndexOutOfBoundsException` if there is no such message")
    static void promise12NoSuchMessage() {
        noMessage(DunningDesk::kind);
    }

    @Says("Throws `IndexOutOfBoundsException` if there is no such message")
    static void promise13NoSuchMessage() {
        noMessage(DunningDesk::tries);
    }

    @Says("Throws `IndexOutOfBoundsException` if there is no such message")
    static void promise14NoSuchMessage() {
        noMessage(DunningDesk::readyAt);
    }

    @Says("Throws `IllegalStateException` if it does not wait")
    static void promise14MessageDoesNotWait() {
        inAnotherState('w', IllegalStateException.class, DunningDesk::readyAt);
    }

    @Says("Throws `IllegalArgumentException` if there is no such queue")
    static void promise15NoSuchQueue() {
        for (int queue : NO_QUEUES) {
            refused(IllegalArgumentException.class, desk -> desk.ready(queue));
        }
    }

    @Says("Throws `IllegalArgumentException` if there is no such queue")
    static void promise16NoSuchQueue() {
        for (int queue : NO_QUEUES) {
            refused(IllegalArgumentException.class, desk -> desk.readyAtPlace(queue, 0));
            refused(IllegalArgumentException.class, desk -> desk.readyAtPlace(queue, -1));
            refused(IllegalArgumentException.class, desk -> desk.readyAtPlace(queue, 80));
        }
    }

    @Says("Throws `NoSuchElementException` if there is no such place")
    static void promise16NoSuchPlace() {
        Checks.same(3, Desks.mixed().readyAtPlace(1, 0));
        for (int place : new int[] {-1, 1, 80, Integer.MIN_VALUE, Integer.MAX_VALUE}) {
            refused(NoSuchElementException.class, desk -> desk.readyAtPlace(1, place));
        }
        refused(NoSuchElementException.class, desk -> desk.readyAtPlace(0, 0));
        refused(NoSuchElementException.class, DunningDesk::new, desk -> desk.readyAtPlace(2, 0));
        refused(NoSuchElementException.class, RefusalsTest::fullOfMessages, desk -> desk.readyAtPlace(1, 80));
    }

    @Says("Throws `IllegalArgumentException` if there is no such clerk")
    static void promise17NoSuchClerk() {
        for (int clerk : NO_CLERKS) {
            refused(IllegalArgumentException.class, desk -> desk.take(clerk, 1));
            refused(IllegalArgumentException.class, desk -> desk.take(clerk, 0));
        }
    }

    @Says("or no such queue")
    static void promise17NoSuchQueue() {
        for (int queue : NO_QUEUES) {
            refused(IllegalArgumentException.class, desk -> desk.take(0, queue));
            refused(IllegalArgumentException.class, desk -> desk.take(1, queue));
        }
    }

    @Says("Throws `IllegalStateException` if the clerk has 2 messages")
    static void promise17ClerkHasTwoMessages() {
        refused(IllegalStateException.class, desk -> desk.take(1, 1));
        refused(IllegalStateException.class, desk -> desk.take(1, 0));
        DunningDesk one = Desks.withPayments(2);
        one.take(1, 1);
        Checks.same(1, one.take(1, 1));
    }

    @Says("Throws `NoSuchElementException` if none waits and is ready")
    static void promise17NoneWaitsAndIsReady() {
        refused(NoSuchElementException.class, desk -> desk.take(0, 0));
        refused(NoSuchElementException.class, desk -> desk.take(3, 2));
        refused(NoSuchElementException.class, DunningDesk::new, desk -> desk.take(3, 2));
        refused(NoSuchElementException.class, RefusalsTest::withLaterOne, desk -> desk.take(1, 1));
        DunningDesk desk = withLaterOne();
        desk.pass(1);
        Checks.same(0, desk.take(1, 1));
    }

    private static DunningDesk withLaterOne() {
        DunningDesk desk = Desks.withCase(100, 999);
        desk.post(1, 5, 'n', 0, 0, 1);
        return desk;
    }

    @Says("Throws `IndexOutOfBoundsException` if there is no such message")
    static void promise18NoSuchMessage() {
        noMessage(DunningDesk::finish);
    }

    @Says("Throws `IllegalStateException` if it is not taken")
    static void promise18MessageNotTaken() {
        inAnotherState('t', IllegalStateException.class, DunningDesk::finish);
    }

    @Says("Throws `IndexOutOfBoundsException` if there is no such message")
    static void promise19NoSuchMessage() {
        noMessage(DunningDesk::handBack);
    }

    @Says("Throws `IllegalStateException` if it is not taken")
    static void promise19MessageNotTaken() {
        inAnotherState('t', IllegalStateException.class, DunningDesk::handBack);
    }

    @Says("Throws `IndexOutOfBoundsException` if there is no such message")
    static void promise20NoSuchMessage() {
        noMessage(DunningDesk::revive);
    }

    @Says("Throws `IllegalStateException` if it is not dead")
    static void promise20MessageNotDead() {
        inAnotherState('x', IllegalStateException.class, DunningDesk::revive);
    }

    @Says("Throws `IndexOutOfBoundsException` if there is no such message")
    static void promise21NoSuchMessage() {
        noMessage(DunningDesk::clerk);
    }

    @Says("Throws `NoSuchElementException` if it is not taken")
    static void promise21MessageNotTaken() {
        inAnotherState('t', NoSuchElementException.class, DunningDesk::clerk);
    }

    @Says("Throws `IllegalArgumentException` if there is no such clerk")
    static void promise22NoSuchClerk() {
        for (int clerk : NO_CLERKS) {
            refused(IllegalArgumentException.class, desk -> desk.has(clerk));
        }
    }

    @Says("Throws `IllegalArgumentException` if the number is out of range,")
    static void promise23NumberOutOfRange() {
        for (int days : new int[] {0, -1, 31, Integer.MIN_VALUE, Integer.MAX_VALUE}) {
            refused(IllegalArgumentException.class, desk -> desk.pass(days));
        }
    }

    @Says("or the day would be greater than 999")
    static void promise23DayWouldBeGreaterThan999() {
        Checks.same(981, lastDays().day());
        for (int days : new int[] {19, 30, 31, 0, Integer.MAX_VALUE}) {
            refused(IllegalArgumentException.class, RefusalsTest::lastDays, desk -> desk.pass(days));
        }
        DunningDesk desk = lastDays();
        Checks.same(0, desk.pass(18));
        Checks.same(999, desk.day());
        Checks.refused(IllegalArgumentException.class, () -> desk.pass(1));
        Checks.refused(IllegalArgumentException.class, () -> desk.pass(30));
    }

    @Says("Throws `IllegalArgumentException` if there is no such state")
    static void promise25NoSuchState() {
        for (char state : new char[] {'g', 'i', 'H', 'W', 'r', 'p', 'n', ' ', 0, '\uffff'}) {
            refused(IllegalArgumentException.class, desk -> desk.count(state));
        }
    }

    @Says("Throws `ArithmeticException` if there are no messages")
    static void promise26NoMessages() {
        refused(ArithmeticException.class, DunningDesk::new, DunningDesk::doneShare);
        refused(ArithmeticException.class, () -> Desks.withCases(8), DunningDesk::doneShare);
        Checks.same(0.0f, Desks.withMessageIn('h', 0).doneShare());
    }

    @Says("Throws `ArithmeticException` if there are none")
    static void promise27NoOpenCases() {
        refused(ArithmeticException.class, DunningDesk::new, DunningDesk::meanAmount);
        refused(ArithmeticException.class, RefusalsTest::paid, DunningDesk::meanAmount);
        refused(ArithmeticException.class, () -> {
            DunningDesk desk = new DunningDesk();
            desk.post(0, 1, 'p', 0, 5, 0);
            return desk;
        }, DunningDesk::meanAmount);
        DunningDesk desk = paid();
        desk.open(1, 5);
        Checks.same(1.0, desk.meanAmount());
    }
}
