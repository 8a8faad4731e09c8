import java.util.NoSuchElementException;

/** Promises 1 to 8: a new desk and its cases. */
final class CasesTest {
    private CasesTest() {
    }

    @Says("Creates a desk without cases and messages,")
    static void promise01NewDeskIsEmpty() {
        DunningDesk desk = new DunningDesk();
        for (int queue = 0; queue < 3; queue++) {
            Checks.same(0, desk.ready(queue));
        }
        for (int clerk = 0; clerk < 4; clerk++) {
            Checks.same(0, desk.has(clerk));
        }
        for (char state : "hwtdx".toCharArray()) {
            Checks.same(0, desk.count(state));
        }
        Checks.refused(ArithmeticException.class, desk::doneShare);
        Checks.refused(ArithmeticException.class, desk::meanAmount);
        for (int number = 0; number < 8; number++) {
            int none = number;
            Checks.refused(IndexOutOfBoundsException.class, () -> desk.amount(none));
        }
        for (int message = 0; message < 80; message++) {
            int none = message;
            Checks.refused(IndexOutOfBoundsException.class, () -> desk.state(none));
        }
        Checks.same(0, desk.post(0, 0, 'p', 0, 0, 0));
        Checks.same(0, desk.open(1, 0));
    }

    @Says("on the day 0.")
    static void promise01NewDeskIsOnDay0() {
        DunningDesk desk = new DunningDesk();
        Checks.same(0, desk.day());
        desk.open(5, 0);
        Checks.same(1, desk.nextReminder(0));
        Checks.same(1, desk.pause(0, 1));
    }

    static void promise01DesksShareNothing() {
        DunningDesk one = Desks.mixed();
        DunningDesk other = new DunningDesk();
        Checks.same(0, other.open(3, 4));
        Checks.same(500, one.amount(0));
        Checks.same(0, other.day());
        Checks.same(0, other.count('w'));
    }

    @Says("Opens a case;")
    static void promise02CaseIsThereFromNowOn() {
        DunningDesk desk = new DunningDesk();
        Checks.refused(IndexOutOfBoundsException.class, () -> desk.amount(0));
        desk.open(100, 0);
        Checks.same(100, desk.amount(0));
        Checks.same(0, desk.letters(0));
        Checks.same(100.0, desk.meanAmount());
        Checks.same(1, desk.pass(1));
        Checks.same('w', desk.state(desk.post(1, 5, 'n', 0, 0, 0)));
    }

    @Says("Returns the number of the case.")
    static void promise02CasesAreNumberedFromZero() {
        DunningDesk desk = new DunningDesk();
        for (int number = 0; number < 8; number++) {
            Checks.same(number, desk.open(number + 1, number));
        }
        for (int number = 0; number < 8; number++) {
            Checks.same(number + 1, desk.amount(number));
            Checks.same(number + 1, desk.nextReminder(number));
        }
    }

    static void promise02EdgesOfAmountAndDueDay() {
        DunningDesk desk = new DunningDesk();
        Checks.same(0, desk.open(1, 0));
        Checks.same(1, desk.open(9999, 999));
        Checks.same(1, desk.amount(0));
        Checks.same(9999, desk.amount(1));
        Checks.same(1, desk.nextReminder(0));
        Checks.same(1000, desk.nextReminder(1));
    }

    @Says("messages that are held for it wait from now on,")
    static void promise02HeldMessagesWaitFromTheOpening() {
        DunningDesk desk = new DunningDesk();
        desk.post(1, 5, 'p', 0, 7, 2);
        desk.post(1, 6, 'p', 0, 7, 30);
        desk.post(1, 7, 'p', 1, 7, 0);
        desk.pass(10);
        Checks.same(0, desk.ready(1));
        Checks.same(0, desk.open(50, 500));
        Checks.same('w', desk.state(0));
        Checks.same(10, desk.readyAt(0));
        Checks.same('w', desk.state(1));
        Checks.same(30, desk.readyAt(1));
        Checks.same('h', desk.state(2));
        Checks.same(1, desk.ready(1));
        Checks.same(0, desk.take(2, 1));
        desk.pass(1);
        Checks.same(1, desk.open(50, 500));
        Checks.same(11, desk.readyAt(2));
        Checks.same('t', desk.state(0));
    }

    @Says("and are ready no earlier than on this day.")
    static void promise02HeldMessagesAreReadyNoEarlierThanToday() {
        int[] delays = {0, 9, 10, 11, 30};
        int[] days = {10, 10, 10, 11, 30};
        DunningDesk desk = new DunningDesk();
        for (int message = 0; message < 5; message++) {
            desk.post(1, message, 'n', 0, 0, delays[message]);
        }
        desk.pass(10);
        desk.open(100, 999);
        for (int message = 0; message < 5; message++) {
            Checks.same(days[message], desk.readyAt(message));
        }
        Checks.same(3, desk.ready(1));
        desk.pass(1);
        Checks.same(4, desk.ready(1));
    }

    static void promise02HeldMessageIsReadyAtOnceOnTheSameDay() {
        DunningDesk desk = new DunningDesk();
        desk.post(1, 1, 'n', 0, 0, 0);
        desk.open(100, 999);
        Checks.same(0, desk.readyAt(0));
        Checks.same(0, desk.take(0, 1));
    }

    static void promise02HeldMessagesOfAllCasesInAFullDesk() {
        DunningDesk desk = new DunningDesk();
        for (int message = 0; message < 80; message++) {
            desk.post(message % 3, message, 'n', message % 8, 0, 0);
        }
        for (int number = 0; number < 8; number++) {
            Checks.same(80 - 10 * number, desk.count('h'));
            Checks.same(number, desk.open(100, 999));
        }
        Checks.same(0, desk.count('h'));
        Checks.same(80, desk.ready(0) + desk.ready(1) + desk.ready(2));
    }

    static void promise02LaterCaseLeavesOtherMessagesAlone() {
        DunningDesk desk = Desks.withPayments(1);
        desk.pass(3);
        desk.open(5, 900);
        Checks.same(0, desk.readyAt(0));
    }

    @Says("Returns the amount of a case.")
    static void promise03AmountOfEachCase() {
        DunningDesk desk = new DunningDesk();
        int[] amounts = {1, 9999, 2, 9998, 100, 50, 1, 9999};
        for (int number = 0; number < 8; number++) {
            desk.open(amounts[number], 999);
        }
        for (int number = 0; number < 8; number++) {
            Checks.same(amounts[number], desk.amount(number));
        }
    }

    @Says("Returns the amount.")
    static void promise03AmountIsWhatIsStillOwed() {
        DunningDesk desk = Desks.withCase(100, 5);
        Checks.same(100, desk.amount(0));
        Checks.yes(Desks.postedAndFinished(desk, 1, 'p', 0, 30));
        Checks.same(70, desk.amount(0));
        Checks.yes(Desks.postedAndFinished(desk, 2, 'p', 0, 9999));
        Checks.same(0, desk.amount(0));
    }

    @Says("Pauses a case from this day on.")
    static void promise04PausesFromThisDayOn() {
        DunningDesk desk = Desks.withCase(100, 20);
        desk.open(100, 20);
        desk.pass(20);
        Checks.same(22, desk.pause(0, 2));
        Checks.same(1, desk.pass(1));
        Checks.same(0, desk.withKey(1010));
        Checks.same(1, desk.pass(1));
        Checks.same(1, desk.withKey(1000));
    }

    @Says("Returns the day until which it is paused,")
    static void promise04TellsTheDayUntilWhichItIsPaused() {
        DunningDesk desk = Desks.withCases(2);
        Checks.same(1, desk.pause(0, 1));
        Checks.same(60, desk.pause(1, 60));
        Desks.passTo(desk, 50);
        Checks.same(51, desk.pause(0, 1));
        Checks.same(110, desk.pause(0, 60));
        Checks.same(110, desk.nextReminder(0));
    }

    @Says("which is never earlier than before.")
    static void promise04PauseEndsLaterNeverEarlier() {
        DunningDesk desk = Desks.withCase(100, 5);
        desk.pass(2);
        Checks.same(3, desk.pause(0, 1));
        Checks.same(62, desk.pause(0, 60));
        Checks.same(62, desk.pause(0, 59));
        Checks.same(62, desk.nextReminder(0));
        desk.pass(10);
        Checks.same(62, desk.pause(0, 50));
        Checks.same(63, desk.pause(0, 51));
    }

    static void promise04PausedOnAllDaysBeforeTheEnd() {
        DunningDesk desk = Desks.withCase(100, 0);
        desk.open(100, 0);
        Checks.same(4, desk.pause(0, 4));
        Checks.same(1, desk.pass(3));
        Checks.refused(NoSuchElementException.class, () -> desk.withKey(1000));
        Checks.same(1, desk.pass(1));
        Checks.same(1, desk.withKey(1000));
    }

    static void promise04PauseMayEndBeyondTheLastDay() {
        DunningDesk desk = Desks.withCase(100, 0);
        for (int i = 0; i < 33; i++) {
            desk.pass(30);
        }
        desk.pass(9);
        Checks.same(1059, desk.pause(0, 60));
    }

    @Says("Lets a case wait for a note.")
    static void promise05CaseWaitsUntilANoteIsFinished() {
        DunningDesk desk = Desks.withCase(100, 0);
        desk.awaitNote(0);
        Checks.refused(NoSuchElementException.class, () -> desk.nextReminder(0));
        int note = Desks.postedAndTaken(desk, 1, 'n', 0, 0);
        Checks.same(0, desk.pass(1));
        Checks.yes(desk.finish(note));
        Checks.same(2, desk.nextReminder(0));
        Checks.same(1, desk.pass(1));
    }

    static void promise05WaitingIsOfOneCaseAlone() {
        DunningDesk desk = Desks.withCases(8);
        for (int number = 7; number >= 0; number--) {
            Checks.no(desk.awaitNote(number));
        }
        Checks.yes(Desks.postedAndFinished(desk, 1, 'n', 3, 0));
        for (int number = 0; number < 8; number++) {
            Checks.same(number != 3, desk.awaitNote(number));
        }
    }

    @Says("Returns whether it waited for one before.")
    static void promise05AwaitNoteTellsWhetherItWaited() {
        DunningDesk desk = Desks.withCase(100, 0);
        Checks.no(desk.awaitNote(0));
        Checks.yes(desk.awaitNote(0));
        Checks.same(0, desk.pass(3));
        Checks.yes(Desks.postedAndFinished(desk, 1, 'n', 0, 0));
        Checks.no(desk.awaitNote(0));
        Checks.yes(Desks.postedAndFinished(desk, 2, 'n', 0, 0));
        Checks.same(1, desk.pass(1));
    }

    @Says("Returns the number of letters of a case that were sent, as it is kept.")
    static void promise06LettersOfEachCase() {
        DunningDesk desk = Desks.withCase(100, 0);
        desk.open(100, 8);
        desk.open(100, 999);
        Checks.same(1, desk.pass(1));
        Checks.yes(Desks.reminded(desk, 0, 0));
        Checks.same(2, desk.pass(8));
        Checks.yes(Desks.reminded(desk, 0, 1));
        Checks.yes(Desks.reminded(desk, 1, 0));
        Checks.same(2, desk.letters(0));
        Checks.same(1, desk.letters(1));
        Checks.same(0, desk.letters(2));
    }

    static void promise06LettersStayWhenTheCaseIsPaid() {
        DunningDesk desk = Desks.withCase(100, 0);
        desk.pass(1);
        Checks.yes(Desks.reminded(desk, 0, 0));
        Checks.yes(Desks.postedAndFinished(desk, 1, 'p', 0, 100));
        Checks.same(1, desk.letters(0));
        Checks.same(1, desk.lettersByMessages(0));
    }

    @Says("Returns the number of letters.")
    static void promise06LettersAreCountedUpToThree() {
        DunningDesk desk = Desks.withCase(100, 0);
        for (int step = 0; step < 3; step++) {
            Checks.same(step, desk.letters(0));
            desk.pass(step == 0 ? 1 : 7);
            Checks.same(step, desk.letters(0));
            Checks.same(desk.withKey(1000 + step), desk.take(0, 0));
            Checks.yes(desk.finish(step));
        }
        Checks.same(3, desk.letters(0));
        Checks.same(0, desk.pass(30));
    }

    @Says("Returns the same number, found from all messages")
    static void promise07LettersFromMessagesAreTheSame() {
        DunningDesk desk = Desks.withCase(100, 0);
        desk.open(100, 999);
        for (int step = 0; step < 3; step++) {
            desk.pass(step == 0 ? 1 : 7);
            Checks.same(step, desk.lettersByMessages(0));
            Checks.same(desk.withKey(1000 + step), desk.take(0, 0));
            Checks.yes(desk.finish(desk.withKey(1000 + step)));
            Checks.same(step + 1, desk.lettersByMessages(0));
            Checks.same(0, desk.lettersByMessages(1));
        }
    }

    @Says("in the order in which they were done.")
    static void promise07OrderInWhichMessagesWereDoneCounts() {
        DunningDesk paidFirst = Desks.withCase(100, 0);
        paidFirst.pass(1);
        Checks.yes(Desks.postedAndFinished(paidFirst, 1, 'p', 0, 100));
        paidFirst.take(0, 0);
        Checks.no(paidFirst.finish(0));
        Checks.same(0, paidFirst.letters(0));
        Checks.same(0, paidFirst.lettersByMessages(0));

        DunningDesk sentFirst = Desks.withCase(100, 0);
        sentFirst.post(1, 1, 'p', 0, 100, 0);
        sentFirst.pass(1);
        Checks.same(1, sentFirst.take(0, 0));
        Checks.yes(sentFirst.finish(1));
        Checks.same(0, sentFirst.take(0, 1));
        Checks.yes(sentFirst.finish(0));
        Checks.same(1, sentFirst.letters(0));
        Checks.same(1, sentFirst.lettersByMessages(0));
    }

    static void promise07MessagesOfOtherCasesDoNotCount() {
        DunningDesk desk = Desks.withCase(100, 999);
        desk.open(100, 0);
        desk.open(100, 999);
        Checks.yes(Desks.postedAndFinished(desk, 1, 'p', 0, 100));
        Checks.yes(Desks.postedAndFinished(desk, 2, 'p', 2, 100));
        Checks.same(1, desk.pass(1));
        Checks.yes(Desks.reminded(desk, 1, 0));
        for (int number = 0; number < 3; number++) {
            Checks.same(number == 1 ? 1 : 0, desk.letters(number));
            Checks.same(number == 1 ? 1 : 0, desk.lettersByMessages(number));
        }
        DunningDesk unpaid = Desks.withCases(3);
        Desks.passTo(unpaid, 103);
        Checks.same(0, unpaid.take(0, 0));
        Checks.same(1, unpaid.take(0, 0));
        Checks.yes(Desks.reminded(unpaid, 2, 0));
        for (int number = 0; number < 3; number++) {
            Checks.same(number == 2 ? 1 : 0, unpaid.lettersByMessages(number));
        }
    }

    static void promise07LettersOfEightCasesInAFullDesk() {
        DunningDesk desk = new DunningDesk();
        for (int number = 0; number < 8; number++) {
            desk.open(100, 0);
        }
        for (int step = 0; step < 3; step++) {
            Checks.same(8, desk.pass(7));
            for (int number = 7; number >= 0; number--) {
                desk.take(number / 2, 0);
            }
            for (int number = 7; number >= 0; number--) {
                Checks.yes(desk.finish(desk.withKey(1000 + 10 * number + step)));
            }
        }
        for (int message = 24; message < 80; message++) {
            Checks.same(message, desk.post(1, message, 'p', message % 8, 1, 0));
            desk.take(0, 1);
            Checks.yes(desk.finish(message));
        }
        Checks.same(80, desk.count('d'));
        for (int number = 0; number < 8; number++) {
            Checks.same(93, desk.amount(number));
            Checks.same(3, desk.letters(number));
            Checks.same(3, desk.lettersByMessages(number));
        }
    }

    @Says("Returns the number of letters.")
    static void promise07PaymentsOfAPartLeaveTheCaseOpen() {
        DunningDesk desk = Desks.withCase(100, 0);
        Desks.postedAndFinished(desk, 1, 'p', 0, 60);
        Desks.postedAndFinished(desk, 2, 'n', 0, 60);
        desk.pass(1);
        desk.take(0, 0);
        Checks.yes(desk.finish(2));
        Checks.same(1, desk.lettersByMessages(0));
        Desks.postedAndFinished(desk, 3, 'p', 0, 39);
        desk.pass(7);
        desk.take(0, 0);
        Checks.yes(desk.finish(4));
        Checks.same(2, desk.lettersByMessages(0));
        desk.pass(7);
        Desks.postedAndFinished(desk, 4, 'p', 0, 9999);
        desk.take(0, 0);
        Checks.no(desk.finish(5));
        Checks.same(2, desk.lettersByMessages(0));
        Checks.same(2, desk.letters(0));
    }

    @Says("Returns on which day the next reminder of a case would be posted if only days passed,")
    static void promise08NextReminderComesOnItsDay() {
        int[] dues = {0, 3, 10, 29};
        for (int due : dues) {
            for (int pause = 1; pause <= 60; pause += 13) {
                DunningDesk desk = new DunningDesk();
                desk.pass(2);
                desk.open(100, due);
                desk.pause(0, pause);
                int next = desk.nextReminder(0);
                Checks.same(0, Desks.passTo(desk, next - 1));
                Checks.same(1, desk.pass(1));
                Checks.same(next, desk.readyAt(0));
            }
        }
    }

    @Says("the greatest of the next day,")
    static void promise08NextReminderIsTheGreatestOfThreeDays() {
        DunningDesk desk = Desks.withCase(100, 10);
        Checks.same(11, desk.nextReminder(0));
        desk.pause(0, 11);
        Checks.same(11, desk.nextReminder(0));
        desk.pause(0, 12);
        Checks.same(12, desk.nextReminder(0));
        DunningDesk late = Desks.withCase(100, 10);
        late.awaitNote(0);
        late.pass(20);
        Checks.yes(Desks.postedAndFinished(late, 1, 'n', 0, 0));
        Checks.same(21, late.nextReminder(0));
        late.pass(1);
        late.take(0, 0);
        Checks.yes(late.finish(1));
        Checks.same(22, late.nextReminder(0));
    }

    @Says("and the day until which it is paused.")
    static void promise08NotBeforeTheEndOfThePause() {
        DunningDesk desk = Desks.withCase(100, 10);
        desk.pause(0, 10);
        Checks.same(11, desk.nextReminder(0));
        desk.pause(0, 11);
        Checks.same(11, desk.nextReminder(0));
        desk.pause(0, 60);
        Checks.same(60, desk.nextReminder(0));
        Desks.passTo(desk, 58);
        Checks.same(60, desk.nextReminder(0));
        Checks.same(0, desk.pass(1));
        Checks.same(60, desk.nextReminder(0));
    }

    @Says("Returns the day, also beyond 999.")
    static void promise08NextReminderMayLieBeyondTheLastDay() {
        Checks.same(1000, Desks.withCase(100, 999).nextReminder(0));
        DunningDesk desk = Desks.withCase(100, 990);
        desk.open(100, 998);
        desk.open(100, 999);
        Desks.passTo(desk, 991);
        Checks.yes(Desks.reminded(desk, 0, 0));
        Checks.same(998, desk.nextReminder(0));
        Desks.passTo(desk, 998);
        Checks.yes(Desks.reminded(desk, 0, 1));
        Checks.same(1005, desk.nextReminder(0));
        Checks.same(999, desk.nextReminder(1));
        Checks.same(1, desk.pass(1));
        Checks.same(1000, desk.nextReminder(2));
        desk.pause(2, 60);
        Checks.same(1059, desk.nextReminder(2));
    }

    @Says("the due day plus 7 times its letters, plus 1,")
    static void promise08SevenDaysForEachLetter() {
        DunningDesk desk = Desks.withCase(100, 999);
        Checks.same(1000, desk.nextReminder(0));
        DunningDesk sent = Desks.withCase(100, 2);
        for (int step = 0; step < 3; step++) {
            Checks.same(3 + 7 * step, sent.nextReminder(0));
            Checks.same(1, sent.pass(step == 0 ? 3 : 7));
            Checks.refused(NoSuchElementException.class, () -> sent.nextReminder(0));
            sent.take(0, 0);
            sent.finish(step);
        }
        Checks.refused(NoSuchElementException.class, () -> sent.nextReminder(0));
    }

    static void promise08NoneIfClosedWaitingOrPosted() {
        DunningDesk closed = Desks.withCase(5, 10);
        Desks.postedAndFinished(closed, 1, 'p', 0, 5);
        Checks.refused(NoSuchElementException.class, () -> closed.nextReminder(0));
        DunningDesk waits = Desks.withCase(5, 10);
        waits.awaitNote(0);
        Checks.refused(NoSuchElementException.class, () -> waits.nextReminder(0));
        DunningDesk dead = Desks.withCase(5, 0);
        dead.pass(1);
        Desks.kill(dead, 0, 0);
        Checks.same('x', dead.state(0));
        Checks.refused(NoSuchElementException.class, () -> dead.nextReminder(0));
    }

    @Says("and there was always room for messages:")
    static void promise08RoomForMessagesDoesNotCount() {
        DunningDesk desk = Desks.withPayments(80);
        desk.open(40, 0);
        Checks.same(1, desk.nextReminder(1));
        Checks.same(0, desk.pass(1));
        Checks.same(2, desk.nextReminder(1));
    }
}
