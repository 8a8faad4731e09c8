import java.util.NoSuchElementException;

/** The paragraphs "Finishing", "Handing back" and "Reminders" of the section "Terms". */
final class DeedsTest {
    private DeedsTest() {
    }

    // ---- finishing

    @Says("Finishing. When a message is finished, it is done.")
    static void termsFinishedIsDone() {
        DunningDesk desk = Desks.withPayments(3);
        desk.take(3, 1);
        desk.finish(0);
        Checks.same('d', desk.state(0));
        Checks.same(1, desk.count('d'));
        Checks.same(0, desk.has(3));
        Checks.refused(IllegalStateException.class, () -> desk.finish(0));
        Checks.refused(IllegalStateException.class, () -> desk.handBack(0));
        Checks.refused(IllegalStateException.class, () -> desk.revive(0));
        Checks.same(1, desk.take(3, 1));
    }

    @Says("A payment makes the amount of its case less by its value,")
    static void termsPaymentMakesTheAmountLess() {
        DunningDesk desk = Desks.withCase(9999, 0);
        desk.open(9999, 0);
        Checks.yes(Desks.postedAndFinished(desk, 1, 'p', 0, 1));
        Checks.same(9998, desk.amount(0));
        Checks.yes(Desks.postedAndFinished(desk, 2, 'p', 0, 9000));
        Checks.same(998, desk.amount(0));
        Checks.no(Desks.postedAndFinished(desk, 3, 'p', 0, 0));
        Checks.same(998, desk.amount(0));
        Checks.same(9999, desk.amount(1));
    }

    @Says("but not less than 0.")
    static void termsAmountIsNotLessThanZero() {
        int[] values = {9, 10, 11, 9999};
        for (int value : values) {
            DunningDesk desk = Desks.withCase(10, 0);
            Checks.yes(Desks.postedAndFinished(desk, 1, 'p', 0, value));
            Checks.same(value == 9 ? 1 : 0, desk.amount(0));
            Checks.same(value == 9, Desks.postedAndFinished(desk, 2, 'p', 0, 9999));
            Checks.same(0, desk.amount(0));
        }
    }

    @Says("A note ends that its case waits for one.")
    static void termsNoteEndsTheWaitingOfItsCase() {
        DunningDesk desk = Desks.withCase(100, 0);
        desk.open(100, 0);
        desk.awaitNote(0);
        desk.awaitNote(1);
        Checks.yes(Desks.postedAndFinished(desk, 1, 'n', 1, 0));
        Checks.same(1, desk.nextReminder(1));
        Checks.refused(NoSuchElementException.class, () -> desk.nextReminder(0));
        Checks.no(desk.awaitNote(1));
        Checks.yes(desk.awaitNote(0));
    }

    @Says("A reminder of the step s sends a letter if its case is open, and s letters of it were sent;")
    static void termsReminderSendsALetter() {
        DunningDesk desk = Desks.withCase(100, 0);
        desk.open(100, 900);
        for (int step = 0; step < 3; step++) {
            Checks.same(1, desk.pass(7));
            Checks.same(step, desk.letters(0));
            Checks.yes(Desks.reminded(desk, 0, step));
            Checks.same(step + 1, desk.letters(0));
            Checks.same(0, desk.letters(1));
        }
    }

    @Says("otherwise, nothing more happens.")
    static void termsReminderOfAPaidCaseDoesNothingMore() {
        DunningDesk desk = Desks.withCase(100, 0);
        desk.pass(1);
        Checks.no(desk.awaitNote(0));
        Checks.yes(Desks.postedAndFinished(desk, 1, 'p', 0, 100));
        Checks.no(Desks.reminded(desk, 0, 0));
        Checks.same('d', desk.state(0));
        Checks.same(0, desk.letters(0));
        Checks.same(0, desk.lettersByMessages(0));
        Checks.same(0, desk.amount(0));
        Checks.yes(Desks.postedAndFinished(desk, 2, 'n', 0, 0));
    }

    // ---- handing back

    @Says("Handing back. When a message is handed back, it has one try more.")
    static void termsHandedBackHasOneTryMore() {
        DunningDesk desk = Desks.withPayments(2);
        desk.take(0, 1);
        desk.take(0, 1);
        Checks.same(1, desk.handBack(1));
        Checks.same(1, desk.tries(1));
        Checks.same(0, desk.tries(0));
        desk.pass(2);
        desk.take(1, 1);
        Checks.same(1, desk.tries(1));
        Checks.same(2, desk.handBack(1));
        Checks.same(2, desk.tries(1));
        Checks.same(0, desk.tries(0));
    }

    @Says("With 3 tries it is dead;")
    static void termsDeadWith3Tries() {
        DunningDesk desk = Desks.withPayments(1);
        for (int tries = 1; tries <= 3; tries++) {
            desk.take(0, 1);
            desk.handBack(0);
            Checks.same(tries, desk.tries(0));
            Checks.same(tries < 3 ? 'w' : 'x', desk.state(0));
            desk.pass(4);
        }
        Checks.same(0, desk.ready(1));
        Checks.refused(IllegalStateException.class, () -> desk.readyAt(0));
    }

    @Says("otherwise it waits again,")
    static void termsHandedBackWaitsAgain() {
        DunningDesk desk = Desks.withPayments(1);
        desk.take(2, 1);
        desk.handBack(0);
        Checks.same('w', desk.state(0));
        Checks.same(0, desk.has(2));
        Checks.refused(NoSuchElementException.class, () -> desk.clerk(0));
        Checks.refused(IllegalStateException.class, () -> desk.finish(0));
        Checks.refused(IllegalStateException.class, () -> desk.handBack(0));
        desk.pass(2);
        Checks.same(0, desk.ready(0));
        Checks.same(0, desk.take(3, 1));
    }

    @Says("and is ready as many days later than this day as twice its tries then.")
    static void termsReadyTwiceItsTriesLater() {
        DunningDesk desk = Desks.withPayments(1);
        desk.pass(20);
        desk.take(0, 1);
        desk.handBack(0);
        Checks.same(22, desk.readyAt(0));
        desk.pass(1);
        Checks.same(0, desk.ready(1));
        desk.pass(1);
        Checks.same(1, desk.ready(1));
        desk.take(0, 1);
        desk.handBack(0);
        Checks.same(26, desk.readyAt(0));
        desk.pass(3);
        Checks.same(0, desk.ready(1));
        desk.pass(1);
        Checks.same(1, desk.ready(1));
    }

    @Says("When a dead one is revived, it waits,")
    static void termsRevivedWaits() {
        DunningDesk desk = Desks.withPayments(1);
        Desks.kill(desk, 1, 0);
        desk.revive(0);
        Checks.same('w', desk.state(0));
        Checks.same(0, desk.has(0));
        Checks.refused(IllegalStateException.class, () -> desk.revive(0));
        Checks.same(0, desk.take(1, 1));
    }

    @Says("is ready on this day,")
    static void termsRevivedIsReadyOnThisDay() {
        DunningDesk desk = Desks.withPayments(1);
        Desks.kill(desk, 1, 0);
        desk.pass(5);
        desk.revive(0);
        Checks.same(11, desk.readyAt(0));
        Checks.same(1, desk.ready(1));
        DunningDesk atOnce = Desks.withPayments(1);
        Desks.kill(atOnce, 1, 0);
        atOnce.revive(0);
        Checks.same(6, atOnce.readyAt(0));
        Checks.same(1, atOnce.ready(1));
    }

    @Says("and has no tries.")
    static void termsRevivedHasNoTries() {
        DunningDesk desk = Desks.withPayments(1);
        Desks.kill(desk, 1, 0);
        desk.revive(0);
        Checks.same(0, desk.tries(0));
        Desks.kill(desk, 1, 0);
        Checks.same('x', desk.state(0));
    }

    // ---- reminders

    @Says("Reminders. The keys from 1000 on are those of reminders:")
    static void termsKeysFrom1000AreThoseOfReminders() {
        DunningDesk desk = Desks.withCase(100, 0);
        Checks.refused(IllegalArgumentException.class, () -> desk.post(0, 1000, 'n', 0, 0, 0));
        Checks.same(0, desk.post(0, 999, 'n', 0, 0, 0));
        Checks.refused(NoSuchElementException.class, () -> desk.withKey(1000));
        desk.pass(1);
        Checks.same('r', desk.kind(desk.withKey(1000)));
    }

    @Says("1000 plus 10 times the number of the case, plus the step.")
    static void termsKeyOfAReminderTellsCaseAndStep() {
        DunningDesk desk = new DunningDesk();
        for (int number = 0; number < 8; number++) {
            desk.open(100, 0);
        }
        for (int step = 0; step < 3; step++) {
            Checks.same(8, desk.pass(7));
            for (int number = 0; number < 8; number++) {
                Checks.same(8 * step + number, desk.withKey(1000 + 10 * number + step));
                Checks.yes(Desks.reminded(desk, number, step));
                Checks.same(step + 1, desk.letters(number));
            }
        }
        Checks.same(23, desk.withKey(1072));
    }

    @Says("When a day passes, the day increases by 1;")
    static void termsDayIncreasesByOne() {
        DunningDesk desk = new DunningDesk();
        for (int day = 1; day <= 40; day++) {
            desk.pass(1);
            Checks.same(day, desk.day());
        }
        desk.pass(30);
        Checks.same(70, desk.day());
    }

    @Says("then each message that was taken 5 days ago or earlier is handed back,")
    static void termsTaken5DaysAgoIsHandedBack() {
        DunningDesk desk = Desks.withPayments(3);
        desk.pass(1);
        desk.take(0, 1);
        desk.take(1, 1);
        desk.pass(1);
        desk.take(1, 1);
        desk.pass(3);
        Checks.same("ttt", "" + desk.state(0) + desk.state(1) + desk.state(2));
        desk.pass(1);
        Checks.same("wwt", "" + desk.state(0) + desk.state(1) + desk.state(2));
        Checks.same(1, desk.tries(0));
        Checks.same(8, desk.readyAt(0));
        Checks.same(8, desk.readyAt(1));
        desk.pass(1);
        Checks.same('w', desk.state(2));
        Checks.same(9, desk.readyAt(2));
    }

    @Says("is handed back, by rising numbers;")
    static void termsHandedBackByRisingNumbers() {
        DunningDesk desk = Desks.withPayments(8);
        for (int message = 0; message < 8; message++) {
            desk.take(3 - message / 2, 1);
        }
        desk.pass(5);
        Checks.same(8, desk.count('w'));
        desk.pass(2);
        for (int message = 0; message < 8; message++) {
            Checks.same(message, desk.readyAtPlace(1, message));
        }
    }

    @Says("then, for each case, by rising numbers,")
    static void termsRemindersByRisingCases() {
        DunningDesk desk = new DunningDesk();
        for (int number = 0; number < 8; number++) {
            desk.open(100, 7 - number);
            desk.pause(number, 8);
        }
        Checks.same(8, desk.pass(8));
        for (int number = 0; number < 8; number++) {
            Checks.same(number, desk.withKey(1000 + 10 * number));
        }
    }

    @Says("a reminder is posted into the queue 0,")
    static void termsReminderIsPostedIntoQueue0() {
        DunningDesk desk = Desks.withCase(100, 0);
        Checks.same(1, desk.pass(1));
        Checks.same("100", "" + desk.ready(0) + desk.ready(1) + desk.ready(2));
        Checks.same(0, desk.readyAtPlace(0, 0));
    }

    @Says("ready on this day, if the case is")
    static void termsReminderIsReadyOnItsDay() {
        DunningDesk desk = Desks.withCase(100, 10);
        Checks.same(1, desk.pass(30));
        Checks.same(11, desk.readyAt(0));
        Checks.same(1, desk.ready(0));
        DunningDesk daily = Desks.withCase(100, 10);
        daily.pass(10);
        Checks.same(0, daily.ready(0));
        daily.pass(1);
        Checks.same(11, daily.readyAt(0));
        Checks.same(1, daily.ready(0));
    }

    @Says("if the case is open,")
    static void termsNoReminderOfACaseThatIsPaid() {
        DunningDesk desk = Desks.withPaidCase(0);
        desk.open(1, 0);
        Checks.same(1, desk.pass(30));
        Checks.same(1, desk.withKey(1010));
    }

    @Says("not paused,")
    static void termsNoReminderWhilePaused() {
        DunningDesk desk = Desks.withCase(100, 0);
        desk.open(100, 0);
        desk.pause(0, 30);
        Checks.same(1, desk.pass(29));
        Checks.same(0, desk.withKey(1010));
        Checks.same(1, desk.pass(1));
        Checks.same(1, desk.withKey(1000));
        Checks.same(30, desk.readyAt(1));
    }

    @Says("does not wait for a note,")
    static void termsNoReminderWhileItWaitsForANote() {
        DunningDesk desk = Desks.withCase(100, 0);
        desk.awaitNote(0);
        Checks.same(0, desk.pass(30));
        Checks.yes(Desks.postedAndFinished(desk, 5, 'n', 0, 0));
        Checks.same(1, desk.pass(1));
        Checks.same(31, desk.readyAt(desk.withKey(1000)));
    }

    @Says("has s letters, s less than 3,")
    static void termsReminderIsOfTheNextStepBelow3() {
        DunningDesk desk = Desks.withCase(100, 0);
        for (int step = 0; step < 3; step++) {
            Checks.same(1, desk.pass(10));
            Checks.same(step, desk.withKey(1000 + step));
            Checks.yes(Desks.reminded(desk, 0, step));
        }
        Checks.same(0, desk.pass(30));
        Checks.same(3, desk.count('d'));
        Checks.refused(IndexOutOfBoundsException.class, () -> desk.state(3));
    }

    @Says("if the day is not less than the due day plus 7 times s, plus 1,")
    static void termsReminderNotBeforeItsDay() {
        DunningDesk desk = Desks.withCase(100, 4);
        int[] days = {5, 12, 19};
        for (int step = 0; step < 3; step++) {
            Checks.same(0, Desks.passTo(desk, days[step] - 1));
            Checks.same(1, desk.pass(1));
            Checks.yes(Desks.reminded(desk, 0, step));
        }
        DunningDesk last = Desks.withCase(100, 998);
        last.open(100, 999);
        Checks.same(0, Desks.passTo(last, 998));
        Checks.same(1, last.pass(1));
        Checks.same(0, last.withKey(1000));
    }

    @Says("if there is no message with the key of its step s,")
    static void termsNoReminderWhoseKeyIsThere() {
        DunningDesk desk = Desks.withCase(100, 0);
        Checks.same(1, desk.pass(1));
        Checks.same(0, desk.pass(1));
        desk.take(0, 0);
        Checks.same(0, desk.pass(1));
        desk.handBack(0);
        Checks.same(0, desk.pass(1));
        Checks.same(0, desk.pass(30));
        Checks.refused(IndexOutOfBoundsException.class, () -> desk.state(1));
    }

    @Says("and if there are fewer than 80 messages.")
    static void termsReminderNeedsRoomForMessages() {
        for (int messages = 78; messages <= 80; messages++) {
            DunningDesk desk = Desks.withPayments(messages);
            desk.open(100, 0);
            desk.open(100, 0);
            desk.open(100, 0);
            int room = 80 - messages;
            Checks.same(room, desk.pass(1));
            Checks.same(0, desk.pass(1));
            Checks.refused(NoSuchElementException.class, () -> desk.withKey(1010 + 10 * room));
            if (room > 0) {
                Checks.same(79, desk.withKey(1000 + 10 * room));
            }
        }
    }
}
