import java.util.NoSuchElementException;

/** Promises 23 to 27: days that pass, and figures. */
final class DaysTest {
    private DaysTest() {
    }

    @Says("Lets days pass.")
    static void promise23DaysPassUpToTheLast() {
        DunningDesk desk = new DunningDesk();
        for (int i = 0; i < 33; i++) {
            Checks.same(0, desk.pass(30));
        }
        Checks.refused(IllegalArgumentException.class, () -> desk.pass(10));
        Checks.same(990, desk.day());
        Checks.same(0, desk.pass(9));
        Checks.same(999, desk.day());
        Checks.refused(IllegalArgumentException.class, () -> desk.pass(1));
    }

    static void promise23ReminderIsPostedTheDayAfterTheDueDay() {
        DunningDesk desk = Desks.withCase(100, 5);
        Checks.same(0, desk.pass(5));
        Checks.same(1, desk.pass(1));
        Checks.same('r', desk.kind(0));
        Checks.same('w', desk.state(0));
        Checks.same(6, desk.readyAt(0));
        Checks.same(0, desk.tries(0));
        Checks.same(0, desk.withKey(1000));
        Checks.same(0, desk.readyAtPlace(0, 0));
        Checks.same(0, desk.pass(30));
    }

    @Says("Returns the number of reminders that are posted.")
    static void promise23RemindersByRisingCases() {
        DunningDesk desk = new DunningDesk();
        for (int number = 0; number < 8; number++) {
            desk.open(10, number == 3 ? 1 : 0);
        }
        Checks.same(7, desk.pass(1));
        Checks.same(1, desk.pass(1));
        int[] due = {0, 1, 2, 4, 5, 6, 7, 3};
        for (int message = 0; message < 8; message++) {
            Checks.same(message, desk.withKey(1000 + 10 * due[message]));
        }
        Checks.same(1, desk.readyAt(6));
        Checks.same(2, desk.readyAt(7));
    }

    static void promise23NextStepComesSevenDaysLater() {
        DunningDesk desk = Desks.withCase(100, 0);
        desk.pass(1);
        desk.take(0, 0);
        desk.finish(0);
        Checks.same(0, desk.pass(6));
        Checks.same(1, desk.pass(1));
        Checks.same(1, desk.withKey(1001));
        desk.pass(3);
        desk.take(0, 0);
        desk.finish(1);
        Checks.same(0, desk.pass(3));
        Checks.same(1, desk.pass(1));
        Checks.same(2, desk.withKey(1002));
        Checks.same(15, desk.readyAt(2));
    }

    static void promise23NoReminderIfClosedPausedOrWaiting() {
        DunningDesk desk = Desks.withCase(100, 0);
        desk.open(100, 0);
        desk.open(100, 0);
        desk.open(100, 0);
        Checks.yes(Desks.postedAndFinished(desk, 1, 'p', 0, 100));
        desk.pause(1, 3);
        desk.awaitNote(2);
        Checks.same(1, desk.pass(2));
        Checks.same(1, desk.withKey(1030));
        Checks.same(1, desk.pass(1));
        Checks.same(2, desk.withKey(1010));
        Checks.same(0, desk.pass(30));
        Checks.yes(Desks.postedAndFinished(desk, 2, 'n', 2, 0));
        Checks.same(1, desk.pass(1));
        Checks.same(4, desk.withKey(1020));
    }

    static void promise23DeadReminderIsNotPostedAgain() {
        DunningDesk desk = Desks.withCase(100, 0);
        desk.pass(1);
        Desks.kill(desk, 0, 0);
        Checks.same(0, desk.pass(30));
        desk.revive(0);
        desk.take(0, 0);
        Checks.yes(desk.finish(0));
        Checks.same(1, desk.pass(1));
    }

    static void promise23FullDeskPostsNoReminder() {
        DunningDesk desk = Desks.withPayments(79);
        desk.open(100, 0);
        desk.open(100, 0);
        Checks.same(1, desk.pass(1));
        Checks.same(79, desk.withKey(1010));
        Checks.same(0, desk.pass(5));
        Checks.refused(NoSuchElementException.class, () -> desk.withKey(1020));
        Checks.same(2 + 5, desk.nextReminder(2));
    }

    static void promise23TakenFiveDaysAgoIsHandedBack() {
        DunningDesk desk = Desks.withPayments(2);
        desk.take(0, 1);
        desk.pass(1);
        desk.take(1, 1);
        desk.pass(3);
        Checks.same('t', desk.state(0));
        desk.pass(1);
        Checks.same('w', desk.state(0));
        Checks.same(1, desk.tries(0));
        Checks.same(7, desk.readyAt(0));
        Checks.same('t', desk.state(1));
        Checks.same(0, desk.has(0));
        desk.pass(1);
        Checks.same('w', desk.state(1));
        Checks.same(8, desk.readyAt(1));
    }

    static void promise23HandedBackWithinALongPass() {
        DunningDesk desk = Desks.withPayments(1);
        desk.take(0, 1);
        desk.pass(30);
        Checks.same(7, desk.readyAt(0));
        desk.take(0, 1);
        desk.pass(30);
        Checks.same(39, desk.readyAt(0));
        desk.take(0, 1);
        desk.pass(4);
        Checks.same('t', desk.state(0));
        desk.pass(1);
        Checks.same('x', desk.state(0));
        Checks.same(3, desk.tries(0));
    }

    static void promise23DaysSinceTheLastTakingCount() {
        DunningDesk desk = Desks.withPayments(1);
        desk.take(0, 1);
        desk.pass(3);
        desk.handBack(0);
        desk.pass(2);
        Checks.same(0, desk.take(0, 1));
        desk.pass(4);
        Checks.same('t', desk.state(0));
        desk.pass(1);
        Checks.same('w', desk.state(0));
        Checks.same(14, desk.readyAt(0));
    }

    static void promise23LongPassIsLikeManyShortOnes() {
        DunningDesk once = Desks.mixed();
        DunningDesk daily = Desks.mixed();
        int posted = 0;
        for (int i = 0; i < 30; i++) {
            posted += daily.pass(1);
        }
        Checks.same(posted, once.pass(30));
        Checks.same(Looks.seen(daily), Looks.seen(once));
    }

    static void promise23CountsTheRemindersOfAllItsDays() {
        DunningDesk desk = new DunningDesk();
        for (int number = 0; number < 8; number++) {
            desk.open(10, 4 * number);
        }
        Checks.same(8, desk.pass(29));
        DunningDesk one = new DunningDesk();
        for (int number = 0; number < 8; number++) {
            one.open(10, 4 * number);
        }
        Checks.same(7, one.pass(28));
        Checks.same(1, one.pass(1));
        Checks.same(0, one.pass(1));
    }

    static void promise23RefusedOnTheLastDay() {
        DunningDesk desk = Desks.withCase(5, 999);
        Desks.passTo(desk, 999);
        for (int days : new int[] {1, 2, 30}) {
            Checks.refused(IllegalArgumentException.class, () -> desk.pass(days));
        }
        Checks.same(999, desk.day());
        Checks.same(0, desk.count('w'));
    }

    @Says("Returns the day.")
    static void promise24DayStartsAtZeroAndGrows() {
        DunningDesk desk = new DunningDesk();
        Checks.same(0, desk.day());
        desk.pass(1);
        Checks.same(1, desk.day());
        desk.pass(30);
        Checks.same(31, desk.day());
    }

    @Says("Returns the number of messages in a state.")
    static void promise25CountsOfEachState() {
        DunningDesk desk = Desks.mixed();
        Checks.same(1, desk.count('h'));
        Checks.same(2, desk.count('w'));
        Checks.same(2, desk.count('t'));
        Checks.same(2, desk.count('d'));
        Checks.same(1, desk.count('x'));
    }

    @Says("Returns the number of messages.")
    static void promise25CountsFromNoneToAll() {
        DunningDesk none = new DunningDesk();
        DunningDesk waiting = Desks.withPayments(80);
        DunningDesk held = new DunningDesk();
        for (int message = 0; message < 80; message++) {
            held.post(0, message, 'n', 7, 0, 0);
        }
        for (char state : "hwtdx".toCharArray()) {
            Checks.same(0, none.count(state));
            Checks.same(state == 'w' ? 80 : 0, waiting.count(state));
            Checks.same(state == 'h' ? 80 : 0, held.count(state));
        }
    }

    @Says("Returns the share of the messages that are done.")
    static void promise26OnlyDoneOnesCount() {
        Checks.same(2.0f / 8.0f, Desks.mixed().doneShare());
        for (char state : "hwtx".toCharArray()) {
            Checks.same(0.0f, Desks.withMessageIn(state, 0).doneShare());
        }
        Checks.same(1.0f, Desks.withMessageIn('d', 0).doneShare());
    }

    @Says("Returns their number divided by that of all messages,")
    static void promise26ShareOfAFullDesk() {
        DunningDesk desk = Desks.withPayments(80);
        for (int message = 0; message < 80; message++) {
            Checks.same(message / 80.0f, desk.doneShare());
            desk.take(0, 1);
            desk.finish(message);
        }
        Checks.same(1.0f, desk.doneShare());
    }

    @Says("both converted to float.")
    static void promise26ShareInFloats() {
        DunningDesk desk = Desks.withPayments(3);
        Checks.same(0.0f, desk.doneShare());
        desk.take(0, 1);
        desk.finish(0);
        Checks.same(1.0f / 3.0f, desk.doneShare());
        desk.take(0, 1);
        desk.finish(1);
        Checks.same(2.0f / 3.0f, desk.doneShare());
        desk.take(0, 1);
        desk.finish(2);
        Checks.same(1.0f, desk.doneShare());
        DunningDesk held = new DunningDesk();
        Checks.refused(ArithmeticException.class, held::doneShare);
        held.post(0, 1, 'p', 0, 1, 0);
        Checks.same(0.0f, held.doneShare());
    }

    @Says("Returns the mean amount of the open cases.")
    static void promise27OnlyOpenCasesCount() {
        DunningDesk desk = Desks.withPaidCase(999);
        desk.open(7, 999);
        Checks.same(7.0, desk.meanAmount());
        desk.open(8, 999);
        Checks.same(7.5, desk.meanAmount());
        Checks.yes(Desks.postedAndFinished(desk, 1, 'p', 1, 7));
        Checks.same(8.0, desk.meanAmount());
    }

    @Says("both converted to double.")
    static void promise27MeanOfOpenCasesInDoubles() {
        DunningDesk desk = new DunningDesk();
        Checks.refused(ArithmeticException.class, desk::meanAmount);
        desk.open(100, 999);
        Checks.same(100.0, desk.meanAmount());
        desk.open(50, 999);
        desk.open(51, 999);
        Checks.same(201.0 / 3.0, desk.meanAmount());
        Desks.postedAndFinished(desk, 1, 'p', 1, 49);
        Checks.same(152.0 / 3.0, desk.meanAmount());
        Desks.postedAndFinished(desk, 2, 'p', 1, 1);
        Checks.same(151.0 / 2.0, desk.meanAmount());
        Desks.postedAndFinished(desk, 3, 'p', 0, 100);
        Desks.postedAndFinished(desk, 4, 'p', 2, 100);
        Checks.refused(ArithmeticException.class, desk::meanAmount);
    }

    @Says("Returns the sum of their amounts divided by their number,")
    static void promise27MeanOfEightCases() {
        DunningDesk desk = new DunningDesk();
        for (int number = 0; number < 8; number++) {
            desk.open(9999 - number, 999);
        }
        Checks.same(79964.0 / 8.0, desk.meanAmount());
    }
}
