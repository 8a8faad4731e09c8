import java.util.NoSuchElementException;

/** The section "What it is": each of its words as a short story, and how long an object is used. */
final class AboutTest {
    private static final int CALLS = 512;

    private AboutTest() {
    }

    @Says("A message broker with clerks and a dunning desk: queues with delays, tries and dead letters,")
    static void aboutQueuesWithDelaysTriesAndDeadLetters() {
        for (int queue = 0; queue < 3; queue++) {
            DunningDesk desk = Desks.withCase(100, 999);
            Checks.same(0, desk.post(queue, 1, 'p', 0, 40, 3));
            desk.pass(2);
            Checks.same(0, desk.ready(queue));
            desk.pass(1);
            Checks.same(1, desk.ready(queue));
            Desks.kill(desk, queue, 0);
            Checks.same(1, desk.count('x'));
            Checks.same(0, desk.revive(0));
            Checks.same(0, desk.take(0, queue));
            Checks.yes(desk.finish(0));
            Checks.same(60, desk.amount(0));
        }
    }

    @Says("clerks who take, finish and hand back messages,")
    static void aboutClerksWhoTakeFinishAndHandBack() {
        DunningDesk desk = Desks.withPayments(2);
        Checks.same(0, desk.take(1, 1));
        Checks.same(1, desk.take(2, 1));
        Checks.yes(desk.finish(0));
        Checks.same(1, desk.handBack(1));
        Checks.same("dw", "" + desk.state(0) + desk.state(1));
        Checks.same(0, desk.has(1) + desk.has(2));
    }

    @Says("keys that make twice the same as once,")
    static void aboutKeysThatMakeTwiceTheSameAsOnce() {
        DunningDesk once = Desks.withCase(100, 0);
        DunningDesk twice = Desks.withCase(100, 0);
        for (DunningDesk desk : new DunningDesk[] {once, twice, twice}) {
            Checks.same(0, desk.post(1, 7, 'p', 0, 40, 1));
        }
        Checks.same(Looks.seen(once), Looks.seen(twice));
        Checks.same(Looks.later(once), Looks.later(twice));
    }

    @Says("cases that wait for messages")
    static void aboutCasesThatWaitForMessages() {
        DunningDesk desk = Desks.withCase(100, 0);
        desk.awaitNote(0);
        Checks.same(0, desk.pass(9));
        Checks.yes(Desks.postedAndFinished(desk, 1, 'n', 0, 0));
        Checks.same(1, desk.pass(1));
    }

    @Says("and messages that wait for cases,")
    static void aboutMessagesThatWaitForCases() {
        DunningDesk desk = new DunningDesk();
        desk.post(1, 1, 'p', 0, 40, 0);
        desk.pass(9);
        Checks.refused(NoSuchElementException.class, () -> desk.take(0, 1));
        desk.open(100, 999);
        Checks.same(0, desk.take(0, 1));
        Checks.yes(desk.finish(0));
        Checks.same(60, desk.amount(0));
    }

    @Says("and reminders by days with steps and pauses.")
    static void aboutRemindersByDaysWithStepsAndPauses() {
        DunningDesk desk = Desks.withCase(100, 2);
        int[] days = {3, 10, 25};
        for (int step = 0; step < 3; step++) {
            if (step == 2) {
                Checks.same(25, desk.pause(0, 15));
            }
            Checks.same(days[step], desk.nextReminder(0));
            Checks.same(0, Desks.passTo(desk, days[step] - 1));
            Checks.same(1, desk.pass(1));
            Checks.yes(Desks.reminded(desk, 0, step));
            Checks.same(step + 1, desk.letters(0));
        }
        Checks.same(0, Desks.passTo(desk, 999));
    }

    @Says("An object is used for at most 512 calls after it has been made;")
    static void aboutEachOf512CallsIsAnswered() {
        DunningDesk desk = new DunningDesk();
        Checks.same(0, desk.open(100, 0));
        int calls = 1;
        for (int message = 0; message < 80; message++) {
            Checks.same(message, desk.post(1, message, 'p', 0, 1, 0));
            Checks.same(message, desk.readyAtPlace(1, 0));
            Checks.same(message, desk.take(0, 1));
            Checks.yes(desk.finish(message));
            Checks.same(99 - message, desk.amount(0));
            Checks.same((message + 1) / (message + 1.0f), desk.doneShare());
            calls += 6;
        }
        for (int day = 1; calls < CALLS; day++) {
            Checks.same(0, desk.pass(1));
            calls++;
            if (calls < CALLS) {
                Checks.same(day, desk.day());
                calls++;
            }
        }
        Checks.same(CALLS, calls);
    }
}
