import java.util.NoSuchElementException;

/** Promises 17 to 22: clerks who take, finish and hand back. */
final class ClerksTest {
    private ClerksTest() {
    }

    @Says("Returns the number of the message.")
    static void promise17EarliestThenLowestIsTaken() {
        DunningDesk desk = Desks.withCase(100, 999);
        desk.post(1, 1, 'p', 0, 1, 2);
        desk.post(1, 2, 'p', 0, 1, 1);
        desk.post(1, 3, 'p', 0, 1, 1);
        desk.post(0, 4, 'p', 0, 1, 0);
        desk.pass(1);
        Checks.same(1, desk.take(3, 1));
        Checks.same(2, desk.take(2, 1));
        Checks.refused(NoSuchElementException.class, () -> desk.take(1, 1));
        desk.pass(1);
        Checks.same(0, desk.take(1, 1));
        Checks.same('t', desk.state(0));
        Checks.same(1, desk.clerk(0));
        Checks.same(2, desk.clerk(2));
        Checks.same('w', desk.state(3));
    }

    @Says("Lets a clerk take a message.")
    static void promise17TakenMessageIsTheClerks() {
        for (int clerk = 0; clerk < 4; clerk++) {
            DunningDesk desk = Desks.withPayments(2);
            desk.take(clerk, 1);
            Checks.same('t', desk.state(0));
            Checks.same(clerk, desk.clerk(0));
            Checks.same(1, desk.has(clerk));
            Checks.same('w', desk.state(1));
            Checks.same(1, desk.ready(1));
        }
    }

    static void promise17LastMessageOfAFullDeskIsTaken() {
        DunningDesk desk = Desks.withMessageIn('w', 79);
        Checks.same(79, desk.take(0, 2));
        Checks.refused(NoSuchElementException.class, () -> desk.take(0, 2));
        Checks.same(79, desk.ready(1));
    }

    static void promise17HandedBackByDaysMakesRoomForTheClerk() {
        DunningDesk desk = Desks.withPayments(3);
        desk.take(0, 1);
        desk.take(0, 1);
        desk.pass(4);
        Checks.refused(IllegalStateException.class, () -> desk.take(0, 1));
        desk.pass(1);
        Checks.same(2, desk.take(0, 1));
        Checks.refused(NoSuchElementException.class, () -> desk.take(0, 1));
    }

    static void promise17AtMostTwoMessagesForAClerk() {
        DunningDesk desk = Desks.withPayments(9);
        for (int clerk = 0; clerk < 4; clerk++) {
            int taker = clerk;
            Checks.same(2 * clerk, desk.take(clerk, 1));
            Checks.same(2 * clerk + 1, desk.take(clerk, 1));
            Checks.refused(IllegalStateException.class, () -> desk.take(taker, 1));
        }
        Checks.yes(desk.finish(0));
        Checks.same(8, desk.take(0, 1));
        Checks.refused(IllegalStateException.class, () -> desk.take(0, 1));
        desk.handBack(8);
        Checks.refused(NoSuchElementException.class, () -> desk.take(0, 1));
    }

    @Says("Finishes a message.")
    static void promise18FinishedMessageIsOutOfTheQueue() {
        DunningDesk desk = Desks.withPayments(2);
        desk.take(0, 1);
        desk.finish(0);
        Checks.same('d', desk.state(0));
        Checks.same(99, desk.amount(0));
        desk.pass(30);
        Checks.same('d', desk.state(0));
        Checks.same(1, desk.ready(1));
        Checks.same(1, desk.readyAtPlace(1, 0));
    }

    static void promise18AllMessagesOfAFullDeskAreFinished() {
        DunningDesk desk = Desks.withPayments(80);
        for (int message = 0; message < 80; message++) {
            Checks.same(message, desk.take(message % 4, 1));
            Checks.yes(desk.finish(message));
        }
        Checks.same(80, desk.count('d'));
        Checks.same(20, desk.amount(0));
        Checks.same(0, desk.lettersByMessages(0));
    }

    @Says("Returns whether the amount,")
    static void promise18PaymentLessensTheAmount() {
        DunningDesk desk = Desks.withCase(100, 999);
        desk.open(100, 999);
        Checks.no(Desks.postedAndFinished(desk, 1, 'p', 0, 0));
        Checks.same(100, desk.amount(0));
        Checks.yes(Desks.postedAndFinished(desk, 2, 'p', 0, 99));
        Checks.same(1, desk.amount(0));
        Checks.yes(Desks.postedAndFinished(desk, 3, 'p', 0, 50));
        Checks.same(0, desk.amount(0));
        Checks.no(Desks.postedAndFinished(desk, 4, 'p', 0, 50));
        Checks.same(0, desk.amount(0));
        Checks.same(100, desk.amount(1));
        Checks.same(4, desk.count('d'));
        Checks.same(0, desk.has(3));
    }

    @Says("the waiting")
    static void promise18NoteEndsTheWaiting() {
        DunningDesk desk = Desks.withCase(100, 0);
        Checks.no(Desks.postedAndFinished(desk, 1, 'n', 0, 50));
        Checks.same(100, desk.amount(0));
        desk.awaitNote(0);
        Checks.refused(NoSuchElementException.class, () -> desk.nextReminder(0));
        Checks.yes(Desks.postedAndFinished(desk, 2, 'n', 0, 50));
        Checks.same(1, desk.nextReminder(0));
        Checks.no(Desks.postedAndFinished(desk, 3, 'n', 0, 50));
    }

    static void promise18NoteEndsTheWaitingOfAPaidCaseToo() {
        DunningDesk desk = Desks.withCase(100, 0);
        desk.awaitNote(0);
        Checks.yes(Desks.postedAndFinished(desk, 1, 'p', 0, 100));
        Checks.yes(Desks.postedAndFinished(desk, 2, 'n', 0, 0));
    }

    @Says("or the letters of its case changed.")
    static void promise18ReminderSendsALetterIfTheCaseIsOpen() {
        DunningDesk desk = Desks.withCase(100, 0);
        desk.open(100, 0);
        Checks.same(2, desk.pass(1));
        Checks.same(0, desk.take(0, 0));
        Checks.yes(desk.finish(0));
        Checks.same(1, desk.letters(0));
        Checks.yes(Desks.postedAndFinished(desk, 1, 'p', 1, 100));
        Checks.same(1, desk.take(0, 0));
        Checks.no(desk.finish(1));
        Checks.same('d', desk.state(1));
        Checks.same(0, desk.letters(1));
    }

    static void promise18ReminderSendsWhileThePausedCaseWaits() {
        DunningDesk desk = Desks.withCase(100, 0);
        desk.pass(1);
        desk.pause(0, 60);
        desk.awaitNote(0);
        desk.take(0, 0);
        Checks.yes(desk.finish(0));
        Checks.same(1, desk.letters(0));
    }

    static void promise18MessageOfALaterCaseSettlesThere() {
        DunningDesk desk = Desks.withCase(100, 0);
        desk.post(2, 5, 'p', 1, 30, 0);
        desk.open(80, 0);
        desk.take(0, 2);
        Checks.yes(desk.finish(0));
        Checks.same(100, desk.amount(0));
        Checks.same(50, desk.amount(1));
    }

    @Says("Hands a message back.")
    static void promise19HandedBackIsOfNoClerk() {
        DunningDesk desk = Desks.withPayments(1);
        desk.take(2, 1);
        desk.handBack(0);
        Checks.same('w', desk.state(0));
        Checks.same(0, desk.has(2));
        Checks.refused(NoSuchElementException.class, () -> desk.clerk(0));
        Checks.same(2, desk.readyAt(0));
        Checks.same(100, desk.amount(0));
    }

    static void promise19ReadyBeyondTheLastDay() {
        DunningDesk desk = Desks.withPayments(1);
        Desks.passTo(desk, 999);
        desk.take(2, 1);
        Checks.same(1, desk.handBack(0));
        Checks.same(1001, desk.readyAt(0));
        Checks.same(0, desk.ready(1));
    }

    @Says("Returns its tries then.")
    static void promise19HandedBackWaitsTwiceItsTries() {
        DunningDesk desk = Desks.withPayments(1);
        desk.pass(10);
        desk.take(2, 1);
        Checks.same(1, desk.handBack(0));
        Checks.same('w', desk.state(0));
        Checks.same(12, desk.readyAt(0));
        Checks.same(0, desk.has(2));
        desk.pass(1);
        Checks.same(0, desk.ready(1));
        desk.pass(1);
        desk.take(2, 1);
        desk.pass(1);
        Checks.same(2, desk.handBack(0));
        Checks.same(17, desk.readyAt(0));
        desk.pass(4);
        desk.take(2, 1);
        Checks.same(3, desk.handBack(0));
        Checks.same('x', desk.state(0));
        Checks.same(0, desk.has(2));
        desk.pass(30);
        Checks.same('x', desk.state(0));
        Checks.same(0, desk.ready(1));
    }

    @Says("Revives a message.")
    static void promise20RevivedIsReadyTodayWithoutTries() {
        DunningDesk desk = Desks.withPayments(1);
        Desks.kill(desk, 1, 0);
        desk.post(1, 1, 'p', 0, 1, 0);
        Desks.kill(desk, 1, 1);
        desk.pass(3);
        Checks.same(1, desk.revive(1));
        Checks.same('w', desk.state(1));
        Checks.same(15, desk.readyAt(1));
        Checks.same(0, desk.tries(1));
        Checks.same(1, desk.ready(1));
        Checks.same(0, desk.revive(0));
        Checks.same(0, desk.take(0, 1));
        Checks.same(1, desk.handBack(0));
        Checks.same(17, desk.readyAt(0));
    }

    @Says("Returns the number of messages that are still dead.")
    static void promise20TellsHowManyAreStillDead() {
        DunningDesk desk = Desks.withPayments(3);
        for (int tries = 1; tries <= 3; tries++) {
            for (int message = 0; message < 3; message++) {
                Checks.same(message, desk.take(message, 1));
                Checks.same(tries, desk.handBack(message));
            }
            desk.pass(4);
        }
        Checks.same(3, desk.count('x'));
        Checks.same(2, desk.revive(1));
        Checks.same(1, desk.revive(2));
        Checks.same(0, desk.revive(0));
        Checks.same(0, desk.count('x'));
    }

    @Says("Returns the clerk who has taken a message.")
    static void promise21ClerkWhoHasTheMessage() {
        DunningDesk desk = Desks.withPayments(2);
        Checks.refused(NoSuchElementException.class, () -> desk.clerk(0));
        desk.take(3, 1);
        desk.take(0, 1);
        Checks.same(3, desk.clerk(0));
        Checks.same(0, desk.clerk(1));
        desk.handBack(0);
        Checks.refused(NoSuchElementException.class, () -> desk.clerk(0));
        desk.pass(2);
        desk.take(1, 1);
        Checks.same(1, desk.clerk(0));
        desk.finish(0);
        Checks.refused(NoSuchElementException.class, () -> desk.clerk(0));
        DunningDesk mixed = Desks.mixed();
        for (int message : new int[] {0, 1, 3, 4, 5, 7}) {
            Checks.refused(NoSuchElementException.class, () -> mixed.clerk(message));
        }
    }

    @Says("Returns the clerk.")
    static void promise21EachClerkIsTold() {
        DunningDesk desk = Desks.withPayments(8);
        for (int message = 0; message < 8; message++) {
            desk.take(3 - message % 4, 1);
        }
        for (int message = 0; message < 8; message++) {
            Checks.same(3 - message % 4, desk.clerk(message));
        }
    }

    @Says("Returns how many messages a clerk has.")
    static void promise22MessagesOfAClerk() {
        DunningDesk desk = Desks.withPayments(5);
        desk.post(0, 900, 'p', 0, 1, 0);
        Checks.same(0, desk.has(1));
        desk.take(1, 1);
        Checks.same(1, desk.has(1));
        desk.take(1, 0);
        Checks.same(2, desk.has(1));
        Checks.same(0, desk.has(0));
        Checks.same(0, desk.has(3));
        desk.finish(5);
        Checks.same(1, desk.has(1));
        desk.pass(5);
        Checks.same(0, desk.has(1));
    }

    @Says("Returns the number of messages.")
    static void promise22FromNoneToTwo() {
        for (int clerk = 0; clerk < 4; clerk++) {
            DunningDesk desk = Desks.withPayments(3);
            Checks.same(0, desk.has(clerk));
            desk.take(clerk, 1);
            Checks.same(1, desk.has(clerk));
            desk.take(clerk, 1);
            Checks.same(2, desk.has(clerk));
            desk.handBack(1);
            Checks.same(1, desk.has(clerk));
            desk.finish(0);
            Checks.same(0, desk.has(clerk));
        }
    }
}
