import java.util.NoSuchElementException;
import java.util.function.BiFunction;

/** The range of each argument: its edges are taken, and what lies beyond them is refused. */
final class RangesTest {
    private RangesTest() {
    }

    /** With no case, one, some and all, no case but those there is taken. */
    private static void caseNumbers(BiFunction<DunningDesk, Integer, Object> call) {
        Checks.outside(0, -1, IndexOutOfBoundsException.class, number -> call.apply(new DunningDesk(), number));
        for (int cases : new int[] {1, 3, 8}) {
            Checks.range(0, cases - 1, IndexOutOfBoundsException.class,
                number -> call.apply(Desks.withCases(cases), number));
        }
    }

    /** With no message, one, two and all, the last message is taken, and none behind it. */
    private static void messageNumbers(char state, BiFunction<DunningDesk, Integer, Object> call) {
        Checks.outside(0, -1, IndexOutOfBoundsException.class, number -> call.apply(Desks.withPayments(0), number));
        for (int last : new int[] {0, 1, 79}) {
            Checks.taken(() -> call.apply(Desks.withMessageIn(state, last), last));
            Checks.outside(0, last, IndexOutOfBoundsException.class,
                number -> call.apply(Desks.withMessageIn(state, last), number));
        }
    }

    /** One message is ready in each queue. */
    private static DunningDesk withAllQueues() {
        DunningDesk desk = Desks.withCase(100, 999);
        for (int queue = 0; queue < 3; queue++) {
            desk.post(queue, queue, 'n', 0, 0, 0);
        }
        return desk;
    }

    @Says("- `amount`: the amount, 1 to 9999")
    static void promise02Amount() {
        Checks.range(1, 9999, IllegalArgumentException.class, amount -> new DunningDesk().open(amount, 5));
    }

    @Says("- `due`: the day on which it is due, 0 to 999")
    static void promise02Due() {
        Checks.range(0, 999, IllegalArgumentException.class, due -> new DunningDesk().open(5, due));
        Checks.range(0, 999, IllegalArgumentException.class, due -> {
            DunningDesk late = new DunningDesk();
            Desks.passTo(late, 999);
            return late.open(5, due);
        });
    }

    @Says("- `number`: the number of the case")
    static void promise03Number() {
        caseNumbers(DunningDesk::amount);
        for (int number = 0; number < 8; number++) {
            Checks.same(10 + number, Desks.withCases(8).amount(number));
        }
    }

    @Says("- `number`: the number of the case")
    static void promise04Number() {
        caseNumbers((desk, number) -> desk.pause(number, 5));
        DunningDesk desk = Desks.withCases(8);
        desk.pause(6, 60);
        Desks.passTo(desk, 58);
        for (int number = 0; number < 8; number++) {
            Checks.same(number == 6 ? 60 : 59, desk.pause(number, 1));
        }
    }

    @Says("- `days`: for how many days, 1 to 60")
    static void promise04Days() {
        Checks.range(1, 60, IllegalArgumentException.class, days -> Desks.withCase(100, 5).pause(0, days));
    }

    @Says("- `number`: the number of the case")
    static void promise05Number() {
        caseNumbers(DunningDesk::awaitNote);
        DunningDesk desk = Desks.withCases(8);
        desk.awaitNote(6);
        for (int number = 0; number < 8; number++) {
            Checks.same(number == 6, desk.awaitNote(number));
        }
    }

    @Says("- `number`: the number of the case")
    static void promise06Number() {
        caseNumbers(DunningDesk::letters);
        DunningDesk desk = Desks.withCases(8);
        Desks.passTo(desk, 103);
        Checks.yes(Desks.reminded(desk, 0, 0));
        Checks.yes(Desks.reminded(desk, 1, 0));
        for (int number = 0; number < 8; number++) {
            Checks.same(number < 2 ? 1 : 0, desk.letters(number));
        }
    }

    @Says("- `number`: the number of the case")
    static void promise07Number() {
        caseNumbers(DunningDesk::lettersByMessages);
        DunningDesk desk = Desks.withCases(8);
        Desks.passTo(desk, 103);
        Checks.yes(Desks.reminded(desk, 0, 0));
        Checks.yes(Desks.reminded(desk, 1, 0));
        for (int number = 0; number < 8; number++) {
            Checks.same(number < 2 ? 1 : 0, desk.lettersByMessages(number));
        }
    }

    @Says("- `number`: the number of the case")
    static void promise08Number() {
        caseNumbers(DunningDesk::nextReminder);
        for (int number = 0; number < 8; number++) {
            Checks.same(101 + number, Desks.withCases(8).nextReminder(number));
        }
    }

    @Says("- `queue`: the queue, 0 to 2")
    static void promise09Queue() {
        Checks.range(0, 2, IllegalArgumentException.class,
            queue -> Desks.withCase(100, 5).post(queue, 7, 'p', 0, 1, 0));
    }

    @Says("- `key`: the key, 0 to 999")
    static void promise09Key() {
        Checks.range(0, 999, IllegalArgumentException.class,
            key -> Desks.withCase(100, 5).post(1, key, 'p', 0, 1, 0));
    }

    @Says("- `kind`: 'p' for a payment, 'n' for a note")
    static void promise09Kind() {
        DunningDesk desk = new DunningDesk();
        Checks.same(0, desk.post(1, 1, 'p', 0, 1, 0));
        Checks.same(1, desk.post(1, 2, 'n', 0, 1, 0));
        Checks.same('p', desk.kind(0));
        Checks.same('n', desk.kind(1));
        for (int sign = 0; sign <= Character.MAX_VALUE; sign++) {
            char kind = (char) sign;
            if (kind != 'p' && kind != 'n') {
                Checks.refused(IllegalArgumentException.class,
                    () -> new DunningDesk().post(1, 3, kind, 0, 1, 0));
            }
        }
    }

    @Says("- `number`: the number of its case, 0 to 7, which need not be there yet")
    static void promise09Number() {
        Checks.range(0, 7, IllegalArgumentException.class,
            number -> new DunningDesk().post(1, 7, 'p', number, 1, 0));
        Checks.range(0, 7, IllegalArgumentException.class,
            number -> Desks.withCases(8).post(1, 7, 'p', number, 1, 0));
        DunningDesk desk = Desks.withCases(7);
        Checks.same(0, desk.post(1, 7, 'p', 6, 1, 0));
        Checks.same(1, desk.post(1, 8, 'p', 7, 1, 0));
        Checks.same('w', desk.state(0));
        Checks.same('h', desk.state(1));
    }

    @Says("- `value`: the value of a payment, 0 to 9999,")
    static void promise09Value() {
        Checks.range(0, 9999, IllegalArgumentException.class,
            value -> Desks.withCase(100, 5).post(1, 7, 'p', 0, value, 0));
        DunningDesk desk = Desks.withCase(9999, 5);
        Checks.no(Desks.postedAndFinished(desk, 1, 'p', 0, 0));
        Checks.yes(Desks.postedAndFinished(desk, 2, 'p', 0, 9999));
        Checks.same(0, desk.amount(0));
    }

    @Says("of no meaning for a note")
    static void promise09ValueOfANote() {
        for (int value : new int[] {0, 1, 50, 9999}) {
            DunningDesk desk = Desks.withCase(100, 5);
            Checks.no(Desks.postedAndFinished(desk, 1, 'n', 0, value));
            desk.awaitNote(0);
            Checks.yes(Desks.postedAndFinished(desk, 2, 'n', 0, value));
            Checks.same(100, desk.amount(0));
            Checks.same(0, desk.letters(0));
            Checks.same(0, desk.lettersByMessages(0));
        }
    }

    @Says("- `delay`: after how many days it is ready, 0 to 30")
    static void promise09Delay() {
        Checks.range(0, 30, IllegalArgumentException.class,
            delay -> Desks.withCase(100, 5).post(1, 7, 'p', 0, 1, delay));
        DunningDesk desk = Desks.withCase(100, 999);
        desk.pass(3);
        desk.post(1, 7, 'n', 0, 1, 0);
        desk.post(1, 8, 'n', 0, 1, 30);
        Checks.same(1, desk.ready(1));
        desk.pass(29);
        Checks.same(1, desk.ready(1));
        desk.pass(1);
        Checks.same(2, desk.ready(1));
    }

    @Says("- `key`: the key, any number")
    static void promise10Key() {
        DunningDesk desk = Desks.withCase(100, 0);
        for (int key : new int[] {Integer.MIN_VALUE, -1, 0, 999, 1000, 1072, Integer.MAX_VALUE}) {
            Checks.refused(NoSuchElementException.class, () -> desk.withKey(key));
        }
        Checks.same(0, desk.post(1, 0, 'n', 0, 0, 0));
        Checks.same(1, desk.post(1, 999, 'n', 0, 0, 0));
        desk.pass(1);
        Checks.same(0, desk.withKey(0));
        Checks.same(1, desk.withKey(999));
        Checks.same(2, desk.withKey(1000));
    }

    @Says("- `message`: the number of the message")
    static void promise11Message() {
        for (char state : "hwtdx".toCharArray()) {
            messageNumbers(state, DunningDesk::state);
        }
    }

    @Says("- `message`: the number of the message")
    static void promise12Message() {
        for (char state : "hwtdx".toCharArray()) {
            messageNumbers(state, DunningDesk::kind);
        }
    }

    @Says("- `message`: the number of the message")
    static void promise13Message() {
        for (char state : "hwtdx".toCharArray()) {
            messageNumbers(state, DunningDesk::tries);
        }
    }

    @Says("- `message`: the number of the message")
    static void promise14Message() {
        messageNumbers('w', DunningDesk::readyAt);
    }

    @Says("- `queue`: the queue, 0 to 2")
    static void promise15Queue() {
        Checks.range(0, 2, IllegalArgumentException.class, queue -> withAllQueues().ready(queue));
        Checks.range(0, 2, IllegalArgumentException.class, queue -> new DunningDesk().ready(queue));
    }

    @Says("- `queue`: the queue, 0 to 2")
    static void promise16Queue() {
        Checks.range(0, 2, IllegalArgumentException.class, queue -> withAllQueues().readyAtPlace(queue, 0));
        for (int queue = 0; queue < 3; queue++) {
            Checks.same(queue, withAllQueues().readyAtPlace(queue, 0));
        }
    }

    @Says("- `place`: the place, 0 for the first one")
    static void promise16Place() {
        for (int messages : new int[] {1, 2, 80}) {
            Checks.range(0, messages - 1, NoSuchElementException.class,
                place -> Desks.withPayments(messages).readyAtPlace(1, place));
        }
        Checks.outside(0, -1, NoSuchElementException.class, place -> Desks.withPayments(0).readyAtPlace(1, place));
        DunningDesk desk = Desks.withPayments(3);
        Checks.same(0, desk.readyAtPlace(1, 0));
        Checks.same(0, desk.take(0, 1));
        Checks.same(1, desk.readyAtPlace(1, 0));
    }

    @Says("- `clerk`: the clerk, 0 to 3")
    static void promise17Clerk() {
        Checks.range(0, 3, IllegalArgumentException.class, clerk -> Desks.withPayments(1).take(clerk, 1));
    }

    @Says("- `queue`: the queue, 0 to 2")
    static void promise17Queue() {
        Checks.range(0, 2, IllegalArgumentException.class, queue -> withAllQueues().take(0, queue));
        for (int queue = 0; queue < 3; queue++) {
            Checks.same(queue, withAllQueues().take(0, queue));
        }
    }

    @Says("- `message`: the number of the message")
    static void promise18Message() {
        messageNumbers('t', DunningDesk::finish);
    }

    @Says("- `message`: the number of the message")
    static void promise19Message() {
        messageNumbers('t', DunningDesk::handBack);
    }

    @Says("- `message`: the number of the message")
    static void promise20Message() {
        messageNumbers('x', DunningDesk::revive);
    }

    @Says("- `message`: the number of the message")
    static void promise21Message() {
        messageNumbers('t', DunningDesk::clerk);
    }

    @Says("- `clerk`: the clerk, 0 to 3")
    static void promise22Clerk() {
        Checks.range(0, 3, IllegalArgumentException.class, clerk -> new DunningDesk().has(clerk));
        Checks.range(0, 3, IllegalArgumentException.class, clerk -> Desks.mixed().has(clerk));
    }

    @Says("- `days`: the number of days, 1 to 30")
    static void promise23Days() {
        Checks.range(1, 30, IllegalArgumentException.class, days -> new DunningDesk().pass(days));
        for (int days : new int[] {1, 2, 29, 30}) {
            DunningDesk desk = new DunningDesk();
            desk.pass(days);
            Checks.same(days, desk.day());
        }
    }

    @Says("- `state`: 'h', 'w', 't', 'd' or 'x'")
    static void promise25State() {
        for (char state : "hwtdx".toCharArray()) {
            Checks.taken(() -> new DunningDesk().count(state));
            Checks.taken(() -> Desks.mixed().count(state));
        }
        for (int sign = 0; sign <= Character.MAX_VALUE; sign++) {
            char state = (char) sign;
            if ("hwtdx".indexOf(state) < 0) {
                Checks.refused(IllegalArgumentException.class, () -> new DunningDesk().count(state));
            }
        }
    }
}
