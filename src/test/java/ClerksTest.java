import java.util.NoSuchElementException;

/** Promises 17 to 22: clerks who take, finish and hand back. */
final class ClerksTest {
    private ClerksTest() {
    }

    static void promise17EarliestThenLowestIsTaken() {
        DunningDesk desk = Desks.withCase(100, 999);
        desk.post(1, 1, 'p', 0, 1, 2);
        desk.post(1, 2, 'p', 0, 1, 1);
        desk.post(1, 3, 'p', 0, 1, 1);
        desk.post(0, 4, 'p', 0, 1, 0);
        desk.pass(1);
        Checks.same(1, desk.take(3, 1));
        Checks.same(2, desk.take(2, 1));
        Checks.refused(NoSuchElementException.class, () -> desk.take(1, 1));
        desk.pass(1);
        Checks.same(0, desk.take(1, 1));
        Checks.same('t', desk.state(0));
        Checks.same(1, desk.clerk(0));
        Checks.same(2, desk.clerk(2));
        Checks.same('w', desk.state(3));
    }

    static void promise17AtMostTwoMessagesForAClerk() {
        DunningDesk desk = Desks.withPayments(9);
        for (int clerk = 0; clerk < 4; clerk++) {
            int taker = clerk;
            Checks.same(2 * clerk, desk.take(clerk, 1));
            Checks.same(2 * clerk + 1, desk.take(clerk, 1));
            Checks.refused(IllegalStateException.class, () -> desk.take(taker, 1));
        }
        Checks.yes(desk.finish(0));
        Checks.same(8, desk.take(0, 1));
        Checks.refused(IllegalStateException.class, () -> desk.take(0, 1));
        desk.handBack(8);
        Checks.refused(NoSuchElementException.class, () -> desk.take(0, 1));
    }

    static void promise18PaymentLessensTheAmount() {
        DunningDesk desk = Desks.withCase(100, 999);
        desk.open(100, 999);
        Checks.no(Desks.postedAndFinished(desk, 1, 'p', 0, 0));
        Checks.same(100, desk.amount(0));
        Checks.yes(Desks.postedAndFinished(desk, 2, 'p', 0, 99));
        Checks.same(1, desk.amount(0));
        Checks.yes(Desks.postedAndFinished(desk, 3, 'p', 0, 50));
        Checks.same(0, desk.amount(0));
        Checks.no(Desks.postedAndFinished(desk, 4, 'p', 0, 50));
        Checks.same(0, desk.amount(0));
        Checks.same(100, desk.amount(1));
        Checks.same(4, desk.count('d'));
        Checks.same(0, desk.has(3));
    }

    static void promise18NoteEndsTheWaiting() {
        DunningDesk desk = Desks.withCase(100, 0);
        Checks.no(Desks.postedAndFinished(desk, 1, 'n', 0, 50));
        Checks.same(100, desk.amount(0));
        desk.awaitNote(0);
        Checks.refused(NoSuchElementException.class, () -> desk.nextReminder(0));
        Checks.yes(Desks.postedAndFinished(desk, 2, 'n', 0, 50));
        Checks.same(1, desk.nextReminder(0));
        Checks.no(Desks.postedAndFinished(desk, 3, 'n', 0, 50));
    }

    static void promise18NoteEndsTheWaitingOfAPaidCaseToo() {
        DunningDesk desk = Desks.withCase(100, 0);
        desk.awaitNote(0);
        Checks.yes(Desks.postedAndFinished(desk, 1, 'p', 0, 100));
        Checks.yes(Desks.postedAndFinished(desk, 2, 'n', 0, 0));
    }

    static void promise18ReminderSendsALetterIfTheCaseIsOpen() {
        DunningDesk desk = Desks.withCase(100, 0);
        desk.open(100, 0);
        Checks.same(2, desk.pass(1));
        Checks.same(0, desk.take(0, 0));
        Checks.yes(desk.finish(0));
        Checks.same(1, desk.letters(0));
        Checks.yes(Desks.postedAndFinished(desk, 1, 'p', 1, 100));
        Checks.same(1, desk.take(0, 0));
        Checks.no(desk.finish(1));
        Checks.same('d', desk.state(1));
        Checks.same(0, desk.letters(1));
    }

    static void promise18ReminderSendsWhileThePausedCaseWaits() {
        DunningDesk desk = Desks.withCase(100, 0);
        desk.pass(1);
        desk.pause(0, 60);
        desk.awaitNote(0);
        desk.take(0, 0);
        Checks.yes(desk.finish(0));
        Checks.same(1, desk.letters(0));
    }

    static void promise18MessageOfALaterCaseSettlesThere() {
        DunningDesk desk = Desks.withCase(100, 0);
        desk.post(2, 5, 'p', 1, 30, 0);
        desk.open(80, 0);
        desk.take(0, 2);
        Checks.yes(desk.finish(0));
        Checks.same(100, desk.amount(0));
        Checks.same(50, desk.amount(1));
    }

    static void promise19HandedBackWaitsTwiceItsTries() {
        DunningDesk desk = Desks.withPayments(1);
        desk.pass(10);
        desk.take(2, 1);
        Checks.same(1, desk.handBack(0));
        Checks.same('w', desk.state(0));
        Checks.same(12, desk.readyAt(0));
        Checks.same(0, desk.has(2));
        desk.pass(1);
        Checks.same(0, desk.ready(1));
        desk.pass(1);
        desk.take(2, 1);
        desk.pass(1);
        Checks.same(2, desk.handBack(0));
        Checks.same(17, desk.readyAt(0));
        desk.pass(4);
        desk.take(2, 1);
        Checks.same(3, desk.handBack(0));
        Checks.same('x', desk.state(0));
        Checks.same(0, desk.has(2));
        desk.pass(30);
        Checks.same('x', desk.state(0));
        Checks.same(0, desk.ready(1));
    }

    static void promise20RevivedIsReadyTodayWithoutTries() {
        DunningDesk desk = Desks.withPayments(1);
        Desks.kill(desk, 1, 0);
        desk.post(1, 1, 'p', 0, 1, 0);
        Desks.kill(desk, 1, 1);
        desk.pass(3);
        Checks.same(1, desk.revive(1));
        Checks.same('w', desk.state(1));
        Checks.same(15, desk.readyAt(1));
        Checks.same(0, desk.tries(1));
        Checks.same(1, desk.ready(1));
        Checks.same(0, desk.revive(0));
        Checks.same(0, desk.take(0, 1));
        Checks.same(1, desk.handBack(0));
        Checks.same(17, desk.readyAt(0));
    }

    static void promise21ClerkWhoHasTheMessage() {
        DunningDesk desk = Desks.withPayments(2);
        Checks.refused(NoSuchElementException.class, () -> desk.clerk(0));
        desk.take(3, 1);
        desk.take(0, 1);
        Checks.same(3, desk.clerk(0));
        Checks.same(0, desk.clerk(1));
        desk.handBack(0);
        Checks.refused(NoSuchElementException.class, () -> desk.clerk(0));
        desk.pass(2);
        desk.take(1, 1);
        Checks.same(1, desk.clerk(0));
        desk.finish(0);
        Checks.refused(NoSuchElementException.class, () -> desk.clerk(0));
        DunningDesk mixed = Desks.mixed();
        for (int message : new int[] {0, 1, 3, 4, 5, 7}) {
            Checks.refused(NoSuchElementException.class, () -> mixed.clerk(message));
        }
    }

    static void promise22MessagesOfAClerk() {
        DunningDesk desk = Desks.withPayments(5);
        desk.post(0, 900, 'p', 0, 1, 0);
        Checks.same(0, desk.has(1));
        desk.take(1, 1);
        Checks.same(1, desk.has(1));
        desk.take(1, 0);
        Checks.same(2, desk.has(1));
        Checks.same(0, desk.has(0));
        Checks.same(0, desk.has(3));
        desk.finish(5);
        Checks.same(1, desk.has(1));
        desk.pass(5);
        Checks.same(0, desk.has(1));
    }
}
