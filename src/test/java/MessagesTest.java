import java.util.NoSuchElementException;

/** Promises 9 to 16: messages and queues. */
final class MessagesTest {
    private MessagesTest() {
    }

    @Says("Posts a message;")
    static void promise09MessageIsThereFromNowOn() {
        DunningDesk desk = Desks.withCase(100, 999);
        Checks.refused(IndexOutOfBoundsException.class, () -> desk.state(0));
        desk.post(2, 50, 'p', 0, 30, 0);
        Checks.same('w', desk.state(0));
        Checks.same('p', desk.kind(0));
        Checks.same(0, desk.withKey(50));
        Checks.same(1, desk.ready(2));
        Checks.same(1, desk.count('w'));
        Checks.same(0, desk.take(0, 2));
        Checks.yes(desk.finish(0));
        Checks.same(70, desk.amount(0));
    }

    @Says("Returns the number of the message with this key.")
    static void promise09MessagesAreNumberedFromZero() {
        DunningDesk desk = Desks.withCase(100, 5);
        Checks.same(0, desk.post(0, 30, 'p', 0, 1, 0));
        Checks.same(1, desk.post(1, 20, 'n', 0, 0, 4));
        Checks.same(2, desk.post(2, 10, 'p', 1, 1, 4));
        Checks.same('w', desk.state(0));
        Checks.same('w', desk.state(1));
        Checks.same('h', desk.state(2));
        Checks.same(4, desk.readyAt(1));
        Checks.same(0, desk.tries(1));
    }

    static void promise09EdgesOfAllNumbers() {
        DunningDesk desk = Desks.withCase(9999, 5);
        Checks.same(0, desk.post(0, 0, 'p', 0, 0, 0));
        Checks.same(1, desk.post(2, 999, 'p', 7, 9999, 30));
        Checks.same(2, desk.post(1, 998, 'n', 0, 9999, 30));
        Checks.same(30, desk.readyAt(2));
        Checks.same(0, desk.take(0, 0));
        Checks.no(desk.finish(0));
    }

    @Says("if there is a message with this key, and all numbers are in range, nothing changes.")
    static void promise09SameKeyTwiceIsLikeOnce() {
        DunningDesk desk = Desks.withCase(100, 5);
        Checks.same(0, desk.post(1, 7, 'p', 0, 40, 2));
        String before = Looks.seen(desk);
        Checks.same(0, desk.post(2, 7, 'n', 3, 50, 0));
        Checks.same(before, Looks.seen(desk));
        Checks.refused(IndexOutOfBoundsException.class, () -> desk.state(1));
        desk.pass(2);
        Checks.same(0, desk.take(0, 1));
        Checks.yes(desk.finish(0));
        Checks.same(60, desk.amount(0));
        Checks.same(0, desk.post(1, 7, 'p', 0, 40, 2));
        Checks.same('d', desk.state(0));
    }

    static void promise09KnownKeyIsAnsweredInEachState() {
        for (char state : "hwtdx".toCharArray()) {
            DunningDesk desk = Desks.withMessageIn(state, 1);
            String before = Looks.seen(desk);
            Checks.same(1, desk.post(0, 999, 'n', 3, 0, 0));
            Checks.same(1, desk.post(2, 999, 'p', 0, 1, 0));
            Checks.same(before, Looks.seen(desk));
        }
    }

    static void promise09KnownKeyStillNeedsNumbersInRange() {
        DunningDesk desk = Desks.withPayments(1);
        Checks.same(0, desk.post(2, 0, 'n', 7, 9999, 30));
        Checks.refused(IllegalArgumentException.class, () -> desk.post(3, 0, 'n', 7, 9999, 30));
        Checks.refused(IllegalArgumentException.class, () -> desk.post(2, 0, 'n', 8, 9999, 30));
        Checks.refused(IllegalArgumentException.class, () -> desk.post(2, 0, 'p', 7, 10000, 30));
        Checks.refused(IllegalArgumentException.class, () -> desk.post(2, 0, 'n', 7, 9999, 31));
    }

    static void promise09FullDeskStillKnowsItsKeys() {
        DunningDesk desk = Desks.withPayments(80);
        Checks.same(79, desk.post(1, 79, 'p', 0, 1, 0));
        Checks.same(0, desk.post(1, 0, 'n', 7, 9, 9));
        Checks.refused(IllegalStateException.class, () -> desk.post(1, 80, 'p', 0, 1, 0));
        Checks.same(80, desk.count('w'));
    }

    static void promise09ReadyDayCountsFromToday() {
        DunningDesk desk = Desks.withCase(100, 999);
        desk.pass(12);
        desk.post(1, 1, 'p', 0, 1, 3);
        Checks.same(15, desk.readyAt(0));
    }

    @Says("Returns the message with a key.")
    static void promise10MessageIsFoundByItsKey() {
        DunningDesk desk = Desks.mixed();
        Checks.same(0, desk.withKey(20));
        Checks.same(4, desk.withKey(24));
        Checks.same(7, desk.withKey(25));
        Checks.same(5, desk.withKey(1020));
        Checks.same(6, desk.withKey(1030));
        for (int key : new int[] {-1, 0, 26, 999, 1000, 1001, 1010, 1021, Integer.MIN_VALUE, Integer.MAX_VALUE}) {
            Checks.refused(NoSuchElementException.class, () -> desk.withKey(key));
        }
    }

    @Says("Returns the number of the message.")
    static void promise10NumbersOfAFullDesk() {
        DunningDesk desk = new DunningDesk();
        for (int message = 0; message < 80; message++) {
            desk.post(1, 999 - 12 * message, 'n', 0, 0, 0);
        }
        for (int message = 0; message < 80; message++) {
            Checks.same(message, desk.withKey(999 - 12 * message));
        }
    }

    @Says("Returns the state of a message.")
    static void promise11StatesAreTold() {
        DunningDesk desk = Desks.mixed();
        StringBuilder states = new StringBuilder();
        for (int message = 0; message < 8; message++) {
            states.append(desk.state(message));
        }
        Checks.same("dxtwhdtw", states.toString());
    }

    @Says("Returns 'h', 'w', 't', 'd' or 'x'.")
    static void promise11StateAfterEachDeed() {
        DunningDesk desk = new DunningDesk();
        desk.post(1, 1, 'n', 0, 0, 0);
        Checks.same('h', desk.state(0));
        desk.open(100, 999);
        Checks.same('w', desk.state(0));
        desk.take(0, 1);
        Checks.same('t', desk.state(0));
        desk.handBack(0);
        Checks.same('w', desk.state(0));
        desk.pass(2);
        desk.take(0, 1);
        desk.pass(5);
        Checks.same('w', desk.state(0));
        desk.pass(4);
        desk.take(0, 1);
        desk.handBack(0);
        Checks.same('x', desk.state(0));
        desk.revive(0);
        Checks.same('w', desk.state(0));
        desk.take(0, 1);
        desk.finish(0);
        Checks.same('d', desk.state(0));
    }

    @Says("Returns the kind of a message.")
    static void promise12KindsAreTold() {
        DunningDesk desk = Desks.mixed();
        StringBuilder kinds = new StringBuilder();
        for (int message = 0; message < 8; message++) {
            kinds.append(desk.kind(message));
        }
        Checks.same("pnppnrrp", kinds.toString());
    }

    @Says("Returns 'p', 'n' or 'r'.")
    static void promise12KindInEachState() {
        for (char state : "hwtdx".toCharArray()) {
            Checks.same('p', Desks.withMessageIn(state, 2).kind(2));
        }
        DunningDesk desk = Desks.withCase(100, 0);
        desk.post(1, 1, 'n', 7, 0, 0);
        desk.pass(1);
        Checks.same('n', desk.kind(0));
        Checks.same('r', desk.kind(1));
        Desks.kill(desk, 0, 1);
        Checks.same('r', desk.kind(1));
        desk.revive(1);
        Checks.yes(Desks.reminded(desk, 0, 0));
        Checks.same('r', desk.kind(1));
    }

    @Says("Returns the tries of a message.")
    static void promise13TriesGrowWithEachHandingBack() {
        DunningDesk desk = Desks.withPayments(1);
        desk.post(1, 1, 'p', 0, 1, 6);
        Checks.same(0, desk.tries(0));
        Desks.kill(desk, 1, 0);
        Checks.same(3, desk.tries(0));
        Checks.same(0, desk.tries(1));
        desk.revive(0);
        Checks.same(0, desk.tries(0));
        Checks.same(0, desk.take(0, 1));
        desk.handBack(0);
        Checks.same(1, desk.tries(0));
        Checks.same(1, desk.take(0, 1));
        desk.pass(2);
        Checks.same(0, desk.take(0, 1));
        desk.finish(0);
        Checks.same(1, desk.tries(0));
        Checks.same(0, desk.tries(1));
    }

    @Says("Returns the number of tries.")
    static void promise13TriesInEachState() {
        for (char state : "hwtd".toCharArray()) {
            Checks.same(0, Desks.withMessageIn(state, 1).tries(1));
        }
        DunningDesk dead = Desks.withMessageIn('x', 1);
        Checks.same(3, dead.tries(1));
        Checks.same(0, dead.tries(0));
        dead.pass(30);
        Checks.same(3, dead.tries(1));
    }

    @Says("Returns the day from which a message is ready.")
    static void promise14ReadyAtOnlyWhileItWaits() {
        DunningDesk desk = Desks.mixed();
        Checks.same(1, desk.readyAt(3));
        Checks.same(15, desk.readyAt(7));
        for (int message : new int[] {0, 1, 2, 4, 5, 6}) {
            Checks.refused(IllegalStateException.class, () -> desk.readyAt(message));
        }
    }

    static void promise14ReadyAtStaysWhileDaysPass() {
        DunningDesk desk = Desks.withCase(100, 999);
        desk.post(1, 1, 'n', 0, 0, 30);
        desk.post(1, 2, 'n', 0, 0, 0);
        desk.pass(29);
        Checks.same(30, desk.readyAt(0));
        Checks.same(0, desk.readyAt(1));
        desk.pass(30);
        Checks.same(30, desk.readyAt(0));
        Checks.same(0, desk.readyAt(1));
    }

    @Says("Returns the day.")
    static void promise14ReadyAtMayLieBeyondTheLastDay() {
        DunningDesk desk = Desks.withPayments(0);
        for (int i = 0; i < 33; i++) {
            desk.pass(30);
        }
        desk.pass(9);
        desk.post(1, 1, 'p', 0, 1, 30);
        Checks.same(1029, desk.readyAt(0));
    }

    @Says("Returns the number of messages of a queue that wait and are ready.")
    static void promise15ReadyCountsWaitingOnesOfTheQueue() {
        DunningDesk desk = Desks.withCase(100, 999);
        desk.post(0, 1, 'p', 0, 1, 0);
        desk.post(0, 2, 'p', 0, 1, 1);
        desk.post(0, 3, 'p', 0, 1, 2);
        desk.post(0, 4, 'p', 1, 1, 0);
        desk.post(2, 5, 'p', 0, 1, 0);
        Checks.same(1, desk.ready(0));
        Checks.same(0, desk.ready(1));
        Checks.same(1, desk.ready(2));
        desk.pass(1);
        Checks.same(2, desk.ready(0));
        desk.take(0, 0);
        Checks.same(1, desk.ready(0));
        desk.finish(0);
        Checks.same(1, desk.ready(0));
        desk.pass(1);
        Checks.same(2, desk.ready(0));
    }

    @Says("Returns the number of messages.")
    static void promise15ReadyFromNoneToAll() {
        DunningDesk none = new DunningDesk();
        DunningDesk all = Desks.withPayments(80);
        for (int queue = 0; queue < 3; queue++) {
            Checks.same(0, none.ready(queue));
            Checks.same(queue == 1 ? 80 : 0, all.ready(queue));
        }
        for (char state : "htdx".toCharArray()) {
            Checks.same(0, Desks.withMessageIn(state, 0).ready(2));
        }
        Checks.same(1, Desks.withMessageIn('w', 0).ready(2));
    }

    @Says("Returns a message of a queue that waits and is ready,")
    static void promise16OnlyWaitingAndReadyOnesHaveAPlace() {
        DunningDesk desk = Desks.withPayments(1);
        Desks.kill(desk, 1, 0);
        Checks.same(1, desk.post(1, 501, 'n', 0, 0, 0));
        desk.take(0, 1);
        desk.finish(1);
        Checks.same(2, desk.post(1, 502, 'n', 0, 0, 0));
        desk.take(0, 1);
        desk.post(1, 503, 'n', 7, 0, 0);
        desk.post(1, 504, 'n', 0, 0, 1);
        desk.post(0, 505, 'n', 0, 0, 0);
        desk.post(1, 506, 'n', 0, 0, 0);
        Checks.same(6, desk.readyAtPlace(1, 0));
        Checks.refused(NoSuchElementException.class, () -> desk.readyAtPlace(1, 1));
        Checks.same(5, desk.readyAtPlace(0, 0));
        desk.pass(1);
        Checks.same(6, desk.readyAtPlace(1, 0));
        Checks.same(4, desk.readyAtPlace(1, 1));
    }

    @Says("in the order in which they would be taken.")
    static void promise16PlacesAreByDayThenByNumber() {
        DunningDesk desk = Desks.withCase(100, 999);
        desk.post(1, 1, 'p', 0, 1, 3);
        desk.post(1, 2, 'p', 0, 1, 1);
        desk.post(1, 3, 'p', 0, 1, 3);
        desk.post(2, 4, 'p', 0, 1, 0);
        desk.post(1, 5, 'p', 0, 1, 1);
        desk.post(1, 6, 'p', 0, 1, 9);
        desk.pass(4);
        int[] due = {1, 4, 0, 2};
        Checks.same(due.length, desk.ready(1));
        for (int place = 0; place < due.length; place++) {
            Checks.same(due[place], desk.readyAtPlace(1, place));
        }
        for (int place : new int[] {4, 5, -1, Integer.MIN_VALUE, Integer.MAX_VALUE}) {
            Checks.refused(NoSuchElementException.class, () -> desk.readyAtPlace(1, place));
        }
        for (int message : due) {
            Checks.same(message, desk.readyAtPlace(1, 0));
            Checks.same(message, desk.take(0, 1));
            desk.finish(message);
        }
    }

    @Says("Returns the number of the message.")
    static void promise16PlacesOfAFullDesk() {
        DunningDesk desk = Desks.withPayments(80);
        for (int place = 0; place < 80; place++) {
            Checks.same(place, desk.readyAtPlace(1, place));
        }
        Checks.refused(NoSuchElementException.class, () -> desk.readyAtPlace(1, 80));
        Checks.refused(NoSuchElementException.class, () -> desk.readyAtPlace(0, 0));
    }
}
