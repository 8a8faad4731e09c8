/** Promises 1 to 8: a new desk and its cases. */
final class CasesTest {
    private CasesTest() {
    }

    static void promise01NewDeskIsEmpty() {
        DunningDesk desk = new DunningDesk();
        Checks.same(0, desk.day());
        Checks.same("queue queue queue 0 0 0 0 0 0 0 0 0 throws.ArithmeticException"
            + " throws.ArithmeticException day 0", Desks.seen(desk, 0, 0));
        Checks.refused(IndexOutOfBoundsException.class, () -> desk.amount(0));
        Checks.refused(IndexOutOfBoundsException.class, () -> desk.state(0));
    }

    static void promise01DesksShareNothing() {
        DunningDesk one = Desks.mixed();
        DunningDesk other = new DunningDesk();
        Checks.same(0, other.open(3, 4));
        Checks.same(500, one.amount(0));
        Checks.same(0, other.day());
        Checks.same(0, other.count('w'));
    }

    static void promise02CasesAreNumberedFromZero() {
        DunningDesk desk = new DunningDesk();
        for (int number = 0; number < 8; number++) {
            Checks.same(number, desk.open(number + 1, number));
        }
        for (int number = 0; number < 8; number++) {
            Checks.same(number + 1, desk.amount(number));
            Checks.same(number + 1, desk.nextReminder(number));
        }
    }

    static void promise02EdgesOfAmountAndDueDay() {
        DunningDesk desk = new DunningDesk();
        Checks.same(0, desk.open(1, 0));
        Checks.same(1, desk.open(9999, 999));
        Checks.same(1, desk.amount(0));
        Checks.same(9999, desk.amount(1));
        Checks.same(1, desk.nextReminder(0));
        Checks.same(1000, desk.nextReminder(1));
    }

    static void promise02HeldMessagesWaitFromTheOpening() {
        DunningDesk desk = new DunningDesk();
        desk.post(1, 5, 'p', 0, 7, 2);
        desk.post(1, 6, 'p', 0, 7, 30);
        desk.post(1, 7, 'p', 1, 7, 0);
        desk.pass(10);
        Checks.same(0, desk.ready(1));
        Checks.same(0, desk.open(50, 500));
        Checks.same('w', desk.state(0));
        Checks.same(10, desk.readyAt(0));
        Checks.same('w', desk.state(1));
        Checks.same(30, desk.readyAt(1));
        Checks.same('h', desk.state(2));
        Checks.same(1, desk.ready(1));
        Checks.same(0, desk.take(2, 1));
        desk.pass(1);
        Checks.same(1, desk.open(50, 500));
        Checks.same(11, desk.readyAt(2));
        Checks.same('t', desk.state(0));
    }

    static void promise02LaterCaseLeavesOtherMessagesAlone() {
        DunningDesk desk = Desks.withPayments(1);
        desk.pass(3);
        desk.open(5, 900);
        Checks.same(0, desk.readyAt(0));
    }

    static void promise03AmountIsWhatIsStillOwed() {
        DunningDesk desk = Desks.withCase(100, 5);
        Checks.same(100, desk.amount(0));
        Checks.yes(Desks.postedAndFinished(desk, 1, 'p', 0, 30));
        Checks.same(70, desk.amount(0));
        Checks.yes(Desks.postedAndFinished(desk, 2, 'p', 0, 9999));
        Checks.same(0, desk.amount(0));
    }

    static void promise04PauseEndsLaterNeverEarlier() {
        DunningDesk desk = Desks.withCase(100, 5);
        desk.pass(2);
        Checks.same(3, desk.pause(0, 1));
        Checks.same(62, desk.pause(0, 60));
        Checks.same(62, desk.pause(0, 59));
        Checks.same(62, desk.nextReminder(0));
        desk.pass(10);
        Checks.same(62, desk.pause(0, 50));
        Checks.same(63, desk.pause(0, 51));
    }

    static void promise04PausedOnAllDaysBeforeTheEnd() {
        DunningDesk desk = Desks.withCase(100, 0);
        desk.open(100, 0);
        Checks.same(4, desk.pause(0, 4));
        Checks.same(1, desk.pass(3));
        Checks.refused(java.util.NoSuchElementException.class, () -> desk.withKey(1000));
        Checks.same(1, desk.pass(1));
        Checks.same(1, desk.withKey(1000));
    }

    static void promise04PauseMayEndBeyondTheLastDay() {
        DunningDesk desk = Desks.withCase(100, 0);
        for (int i = 0; i < 33; i++) {
            desk.pass(30);
        }
        desk.pass(9);
        Checks.same(1059, desk.pause(0, 60));
    }

    static void promise05AwaitNoteTellsWhetherItWaited() {
        DunningDesk desk = Desks.withCase(100, 0);
        Checks.no(desk.awaitNote(0));
        Checks.yes(desk.awaitNote(0));
        Checks.same(0, desk.pass(3));
        Checks.yes(Desks.postedAndFinished(desk, 1, 'n', 0, 0));
        Checks.no(desk.awaitNote(0));
        Checks.yes(Desks.postedAndFinished(desk, 2, 'n', 0, 0));
        Checks.same(1, desk.pass(1));
    }

    static void promise06LettersAreCountedUpToThree() {
        DunningDesk desk = Desks.withCase(100, 0);
        for (int step = 0; step < 3; step++) {
            Checks.same(step, desk.letters(0));
            desk.pass(step == 0 ? 1 : 7);
            Checks.same(step, desk.letters(0));
            Checks.same(desk.withKey(1000 + step), desk.take(0, 0));
            Checks.yes(desk.finish(step));
        }
        Checks.same(3, desk.letters(0));
        Checks.same(0, desk.pass(30));
    }

    static void promise07LettersFromMessagesAreTheSame() {
        DunningDesk desk = Desks.withCase(100, 0);
        desk.open(100, 999);
        for (int step = 0; step < 3; step++) {
            desk.pass(step == 0 ? 1 : 7);
            Checks.same(step, desk.lettersByMessages(0));
            Checks.same(desk.withKey(1000 + step), desk.take(0, 0));
            Checks.yes(desk.finish(desk.withKey(1000 + step)));
            Checks.same(step + 1, desk.lettersByMessages(0));
            Checks.same(0, desk.lettersByMessages(1));
        }
    }

    static void promise07OrderInWhichMessagesWereDoneCounts() {
        DunningDesk paidFirst = Desks.withCase(100, 0);
        paidFirst.pass(1);
        Checks.yes(Desks.postedAndFinished(paidFirst, 1, 'p', 0, 100));
        paidFirst.take(0, 0);
        Checks.no(paidFirst.finish(0));
        Checks.same(0, paidFirst.letters(0));
        Checks.same(0, paidFirst.lettersByMessages(0));

        DunningDesk sentFirst = Desks.withCase(100, 0);
        sentFirst.post(1, 1, 'p', 0, 100, 0);
        sentFirst.pass(1);
        Checks.same(1, sentFirst.take(0, 0));
        Checks.yes(sentFirst.finish(1));
        Checks.same(0, sentFirst.take(0, 1));
        Checks.yes(sentFirst.finish(0));
        Checks.same(1, sentFirst.letters(0));
        Checks.same(1, sentFirst.lettersByMessages(0));
    }

    static void promise07PaymentsOfAPartLeaveTheCaseOpen() {
        DunningDesk desk = Desks.withCase(100, 0);
        Desks.postedAndFinished(desk, 1, 'p', 0, 60);
        Desks.postedAndFinished(desk, 2, 'n', 0, 60);
        desk.pass(1);
        desk.take(0, 0);
        Checks.yes(desk.finish(2));
        Checks.same(1, desk.lettersByMessages(0));
        Desks.postedAndFinished(desk, 3, 'p', 0, 39);
        desk.pass(7);
        desk.take(0, 0);
        Checks.yes(desk.finish(4));
        Checks.same(2, desk.lettersByMessages(0));
        desk.pass(7);
        Desks.postedAndFinished(desk, 4, 'p', 0, 9999);
        desk.take(0, 0);
        Checks.no(desk.finish(5));
        Checks.same(2, desk.lettersByMessages(0));
        Checks.same(2, desk.letters(0));
    }

    static void promise08NextReminderIsTheGreatestOfThreeDays() {
        DunningDesk desk = Desks.withCase(100, 10);
        Checks.same(11, desk.nextReminder(0));
        desk.pause(0, 11);
        Checks.same(11, desk.nextReminder(0));
        desk.pause(0, 12);
        Checks.same(12, desk.nextReminder(0));
        DunningDesk late = Desks.withCase(100, 10);
        late.awaitNote(0);
        late.pass(20);
        Checks.yes(Desks.postedAndFinished(late, 1, 'n', 0, 0));
        Checks.same(21, late.nextReminder(0));
        late.pass(1);
        late.take(0, 0);
        Checks.yes(late.finish(1));
        Checks.same(22, late.nextReminder(0));
    }

    static void promise08SevenDaysForEachLetter() {
        DunningDesk desk = Desks.withCase(100, 999);
        Checks.same(1000, desk.nextReminder(0));
        DunningDesk sent = Desks.withCase(100, 2);
        for (int step = 0; step < 3; step++) {
            Checks.same(3 + 7 * step, sent.nextReminder(0));
            Checks.same(1, sent.pass(step == 0 ? 3 : 7));
            Checks.refused(java.util.NoSuchElementException.class, () -> sent.nextReminder(0));
            sent.take(0, 0);
            sent.finish(step);
        }
        Checks.refused(java.util.NoSuchElementException.class, () -> sent.nextReminder(0));
    }

    static void promise08NoneIfClosedWaitingOrPosted() {
        DunningDesk closed = Desks.withCase(5, 10);
        Desks.postedAndFinished(closed, 1, 'p', 0, 5);
        Checks.refused(java.util.NoSuchElementException.class, () -> closed.nextReminder(0));
        DunningDesk waits = Desks.withCase(5, 10);
        waits.awaitNote(0);
        Checks.refused(java.util.NoSuchElementException.class, () -> waits.nextReminder(0));
        DunningDesk dead = Desks.withCase(5, 0);
        dead.pass(1);
        Desks.kill(dead, 0, 0);
        Checks.same('x', dead.state(0));
        Checks.refused(java.util.NoSuchElementException.class, () -> dead.nextReminder(0));
    }

    static void promise08RoomForMessagesDoesNotCount() {
        DunningDesk desk = Desks.withPayments(80);
        desk.open(40, 0);
        Checks.same(1, desk.nextReminder(1));
        Checks.same(0, desk.pass(1));
        Checks.same(2, desk.nextReminder(1));
    }
}
