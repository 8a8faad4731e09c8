import java.util.NoSuchElementException;

/** Promises 9 to 16: messages and queues. */
final class MessagesTest {
    private MessagesTest() {
    }

    static void promise09MessagesAreNumberedFromZero() {
        DunningDesk desk = Desks.withCase(100, 5);
        Checks.same(0, desk.post(0, 30, 'p', 0, 1, 0));
        Checks.same(1, desk.post(1, 20, 'n', 0, 0, 4));
        Checks.same(2, desk.post(2, 10, 'p', 1, 1, 4));
        Checks.same('w', desk.state(0));
        Checks.same('w', desk.state(1));
        Checks.same('h', desk.state(2));
        Checks.same(4, desk.readyAt(1));
        Checks.same(0, desk.tries(1));
    }

    static void promise09EdgesOfAllNumbers() {
        DunningDesk desk = Desks.withCase(9999, 5);
        Checks.same(0, desk.post(0, 0, 'p', 0, 0, 0));
        Checks.same(1, desk.post(2, 999, 'p', 7, 9999, 30));
        Checks.same(2, desk.post(1, 998, 'n', 0, 9999, 30));
        Checks.same(30, desk.readyAt(2));
        Checks.same(0, desk.take(0, 0));
        Checks.no(desk.finish(0));
    }

    static void promise09SameKeyTwiceIsLikeOnce() {
        DunningDesk desk = Desks.withCase(100, 5);
        Checks.same(0, desk.post(1, 7, 'p', 0, 40, 2));
        String before = Desks.seen(desk, 1, 1);
        Checks.same(0, desk.post(2, 7, 'n', 3, 50, 0));
        Checks.same(before, Desks.seen(desk, 1, 1));
        Checks.refused(IndexOutOfBoundsException.class, () -> desk.state(1));
        desk.pass(2);
        Checks.same(0, desk.take(0, 1));
        Checks.yes(desk.finish(0));
        Checks.same(60, desk.amount(0));
        Checks.same(0, desk.post(1, 7, 'p', 0, 40, 2));
        Checks.same('d', desk.state(0));
    }

    static void promise09FullDeskStillKnowsItsKeys() {
        DunningDesk desk = Desks.withPayments(80);
        Checks.same(79, desk.post(1, 79, 'p', 0, 1, 0));
        Checks.same(0, desk.post(1, 0, 'n', 7, 9, 9));
        Checks.refused(IllegalStateException.class, () -> desk.post(1, 80, 'p', 0, 1, 0));
        Checks.same(80, desk.count('w'));
    }

    static void promise09ReadyDayCountsFromToday() {
        DunningDesk desk = Desks.withCase(100, 999);
        desk.pass(12);
        desk.post(1, 1, 'p', 0, 1, 3);
        Checks.same(15, desk.readyAt(0));
    }

    static void promise10MessageIsFoundByItsKey() {
        DunningDesk desk = Desks.mixed();
        Checks.same(0, desk.withKey(20));
        Checks.same(4, desk.withKey(24));
        Checks.same(7, desk.withKey(25));
        Checks.same(5, desk.withKey(1020));
        Checks.same(6, desk.withKey(1000));
        for (int key : new int[] {-1, 0, 26, 999, 1001, 1010, 1021, Integer.MIN_VALUE, Integer.MAX_VALUE}) {
            Checks.refused(NoSuchElementException.class, () -> desk.withKey(key));
        }
    }

    static void promise11StatesAreTold() {
        DunningDesk desk = Desks.mixed();
        StringBuilder states = new StringBuilder();
        for (int message = 0; message < 8; message++) {
            states.append(desk.state(message));
        }
        Checks.same("dxtwhdtw", states.toString());
    }

    static void promise12KindsAreTold() {
        DunningDesk desk = Desks.mixed();
        StringBuilder kinds = new StringBuilder();
        for (int message = 0; message < 8; message++) {
            kinds.append(desk.kind(message));
        }
        Checks.same("pnppnrrp", kinds.toString());
    }

    static void promise13TriesGrowWithEachHandingBack() {
        DunningDesk desk = Desks.withPayments(1);
        desk.post(1, 1, 'p', 0, 1, 6);
        Checks.same(0, desk.tries(0));
        Desks.kill(desk, 1, 0);
        Checks.same(3, desk.tries(0));
        Checks.same(0, desk.tries(1));
        desk.revive(0);
        Checks.same(0, desk.tries(0));
        Checks.same(0, desk.take(0, 1));
        desk.handBack(0);
        Checks.same(1, desk.tries(0));
        Checks.same(1, desk.take(0, 1));
        desk.pass(2);
        Checks.same(0, desk.take(0, 1));
        desk.finish(0);
        Checks.same(1, desk.tries(0));
        Checks.same(0, desk.tries(1));
    }

    static void promise14ReadyAtOnlyWhileItWaits() {
        DunningDesk desk = Desks.mixed();
        Checks.same(1, desk.readyAt(3));
        Checks.same(15, desk.readyAt(7));
        for (int message : new int[] {0, 1, 2, 4, 5, 6}) {
            Checks.refused(IllegalStateException.class, () -> desk.readyAt(message));
        }
    }

    static void promise14ReadyAtMayLieBeyondTheLastDay() {
        DunningDesk desk = Desks.withPayments(0);
        for (int i = 0; i < 33; i++) {
            desk.pass(30);
        }
        desk.pass(9);
        desk.post(1, 1, 'p', 0, 1, 30);
        Checks.same(1029, desk.readyAt(0));
    }

    static void promise15ReadyCountsWaitingOnesOfTheQueue() {
        DunningDesk desk = Desks.withCase(100, 999);
        desk.post(0, 1, 'p', 0, 1, 0);
        desk.post(0, 2, 'p', 0, 1, 1);
        desk.post(0, 3, 'p', 0, 1, 2);
        desk.post(0, 4, 'p', 1, 1, 0);
        desk.post(2, 5, 'p', 0, 1, 0);
        Checks.same(1, desk.ready(0));
        Checks.same(0, desk.ready(1));
        Checks.same(1, desk.ready(2));
        desk.pass(1);
        Checks.same(2, desk.ready(0));
        desk.take(0, 0);
        Checks.same(1, desk.ready(0));
        desk.finish(0);
        Checks.same(1, desk.ready(0));
        desk.pass(1);
        Checks.same(2, desk.ready(0));
    }

    static void promise16PlacesAreByDayThenByNumber() {
        DunningDesk desk = Desks.withCase(100, 999);
        desk.post(1, 1, 'p', 0, 1, 3);
        desk.post(1, 2, 'p', 0, 1, 1);
        desk.post(1, 3, 'p', 0, 1, 3);
        desk.post(2, 4, 'p', 0, 1, 0);
        desk.post(1, 5, 'p', 0, 1, 1);
        desk.post(1, 6, 'p', 0, 1, 9);
        desk.pass(4);
        int[] due = {1, 4, 0, 2};
        Checks.same(due.length, desk.ready(1));
        for (int place = 0; place < due.length; place++) {
            Checks.same(due[place], desk.readyAtPlace(1, place));
        }
        for (int place : new int[] {4, 5, -1, Integer.MIN_VALUE, Integer.MAX_VALUE}) {
            Checks.refused(NoSuchElementException.class, () -> desk.readyAtPlace(1, place));
        }
        for (int message : due) {
            Checks.same(message, desk.readyAtPlace(1, 0));
            Checks.same(message, desk.take(0, 1));
            desk.finish(message);
        }
    }

    static void promise16PlacesOfAFullDesk() {
        DunningDesk desk = Desks.withPayments(80);
        for (int place = 0; place < 80; place++) {
            Checks.same(place, desk.readyAtPlace(1, place));
        }
        Checks.refused(NoSuchElementException.class, () -> desk.readyAtPlace(1, 80));
        Checks.refused(NoSuchElementException.class, () -> desk.readyAtPlace(0, 0));
    }
}
