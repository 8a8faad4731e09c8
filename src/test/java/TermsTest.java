import java.io.IOException;
import java.nio.file.Files;
import java.nio.file.Path;
import java.util.NoSuchElementException;
import java.util.function.Function;
import java.util.function.Supplier;
import java.util.regex.Matcher;
import java.util.regex.Pattern;

/** The section "Terms", sentence by sentence, each bound from both sides; DeedsTest has what deeds do. */
final class TermsTest {
    private TermsTest() {
    }

    @Says("Its calls are those of the desk: cases are opened, messages are posted, taken, finished and handed"
        + " back, days pass, and all other calls look.")
    static void termsAllOtherCallsLook() {
        for (Supplier<DunningDesk> start : Desks.ofAllKinds()) {
            for (Function<DunningDesk, String> look : Looks.all()) {
                for (Function<DunningDesk, String> witness : Looks.all()) {
                    DunningDesk desk = start.get();
                    look.apply(desk);
                    Checks.same(witness.apply(start.get()), witness.apply(desk));
                }
                DunningDesk desk = start.get();
                look.apply(desk);
                Checks.same(Looks.later(start.get()), Looks.later(desk));
            }
        }
    }

    @Says("No reminder goes out twice for one step,")
    static void termsNoReminderGoesOutTwiceForOneStep() {
        DunningDesk desk = Desks.withCase(100, 0);
        Checks.same(1, desk.pass(1));
        Checks.same(0, desk.pass(10));
        Desks.kill(desk, 0, 0);
        Checks.same(0, desk.pass(10));
        desk.revive(0);
        desk.take(0, 0);
        Checks.same(0, desk.pass(10));
        Checks.yes(Desks.reminded(desk, 0, 0));
        Checks.same(1, desk.pass(1));
        Checks.same(1, desk.withKey(1001));
        Checks.yes(Desks.reminded(desk, 0, 1));
        Checks.same(1, desk.pass(1));
        Checks.yes(Desks.reminded(desk, 0, 2));
        Checks.same(0, Desks.passTo(desk, 999));
        Checks.same(3, desk.count('d'));
        Checks.refused(IndexOutOfBoundsException.class, () -> desk.state(3));
    }

    @Says("and no message is lost.")
    static void termsNoMessageIsLost() {
        DunningDesk desk = Desks.mixed();
        Checks.same(1, desk.pass(1));
        int[] keys = {20, 21, 22, 23, 24, 1020, 1030, 25, 1000};
        for (int day = 7; day < 30; day++) {
            int there = desk.count('h') + desk.count('w') + desk.count('t') + desk.count('d') + desk.count('x');
            Checks.same(9, there);
            for (int message = 0; message < 9; message++) {
                Checks.same(message, desk.withKey(keys[message]));
            }
            if (day % 8 == 0) {
                // Of queue 1, as many as are ready.
                Checks.told(() -> desk.take(0, 1));
                Checks.told(() -> desk.take(3, 1));
            }
            desk.pass(1);
        }
        for (int number = 4; number < 6; number++) {
            Checks.same('h', desk.state(4));
            Checks.same(number, desk.open(50, 999));
        }
        Checks.same('w', desk.state(4));
        Checks.same('x', desk.state(1));
        Checks.same(0, desk.revive(1));
        Checks.same('w', desk.state(1));
    }

    // ---- days

    @Says("Days. The day is 0 at first")
    static void termsDayIsZeroAtFirst() {
        Checks.same(0, new DunningDesk().day());
    }

    @Says(", and at most 999.")
    static void termsDayIsAtMost999() {
        DunningDesk desk = new DunningDesk();
        Desks.passTo(desk, 998);
        Checks.refused(IllegalArgumentException.class, () -> desk.pass(2));
        Checks.same(998, desk.day());
        Checks.same(0, desk.pass(1));
        Checks.same(999, desk.day());
        Checks.refused(IllegalArgumentException.class, () -> desk.pass(1));
        Checks.same(999, desk.day());
    }

    // ---- cases

    @Says("Cases. At most 8 cases are numbered from 0.")
    static void termsAtMost8Cases() {
        DunningDesk desk = new DunningDesk();
        for (int number = 0; number < 8; number++) {
            int next = number;
            Checks.refused(IndexOutOfBoundsException.class, () -> desk.amount(next));
            Checks.same(number, desk.open(10 + number, 5));
            Checks.same(10 + number, desk.amount(number));
        }
        Checks.refused(IllegalStateException.class, () -> desk.open(10, 5));
        Checks.refused(IndexOutOfBoundsException.class, () -> desk.amount(8));
    }

    @Says("A case has an amount that is owed, a day on which it is due, and a number of letters that were sent, 0 at"
        + " first")
    static void termsCaseHasAmountDueDayAndLetters() {
        DunningDesk desk = new DunningDesk();
        desk.open(321, 77);
        desk.open(654, 88);
        Checks.same(321, desk.amount(0));
        Checks.same(654, desk.amount(1));
        Checks.same(78, desk.nextReminder(0));
        Checks.same(89, desk.nextReminder(1));
        Checks.same(0, desk.letters(0));
        Checks.same(0, desk.letters(1));
    }

    @Says("and at most 3.")
    static void termsAtMost3Letters() {
        DunningDesk desk = Desks.withCase(100, 0);
        for (int step = 0; step < 3; step++) {
            Checks.same(1, desk.pass(7));
            Checks.yes(Desks.reminded(desk, 0, step));
            Checks.same(step + 1, desk.letters(0));
        }
        Checks.same(0, Desks.passTo(desk, 999));
        Checks.same(3, desk.letters(0));
        Checks.refused(NoSuchElementException.class, () -> desk.withKey(1003));
    }

    @Says("It is open as long as its amount is greater than 0.")
    static void termsCaseIsOpenAsLongAsItOwes() {
        DunningDesk desk = Desks.withCase(2, 0);
        Checks.yes(Desks.postedAndFinished(desk, 1, 'p', 0, 1));
        Checks.same(1, desk.nextReminder(0));
        Checks.same(1, desk.pause(0, 1));
        Checks.no(desk.awaitNote(0));
        Checks.yes(Desks.postedAndFinished(desk, 2, 'n', 0, 1));
        Checks.same(1.0, desk.meanAmount());
        Checks.same(1, desk.pass(1));
        Checks.yes(Desks.postedAndFinished(desk, 3, 'p', 0, 1));
        Checks.refused(IllegalStateException.class, () -> desk.pause(0, 1));
        Checks.refused(IllegalStateException.class, () -> desk.awaitNote(0));
        Checks.refused(NoSuchElementException.class, () -> desk.nextReminder(0));
        Checks.refused(ArithmeticException.class, desk::meanAmount);
        Checks.no(Desks.reminded(desk, 0, 0));
    }

    @Says("It is paused on all days less than the one until which it is paused;")
    static void termsPausedOnAllDaysLessThanTheEnd() {
        DunningDesk desk = Desks.withCase(100, 0);
        Checks.same(5, desk.pause(0, 5));
        for (int day = 1; day < 5; day++) {
            Checks.same(0, desk.pass(1));
        }
        Checks.same(1, desk.pass(1));
    }

    @Says("at first, it is not.")
    static void termsCaseIsNotPausedAtFirst() {
        DunningDesk desk = Desks.withCase(100, 0);
        Checks.same(1, desk.nextReminder(0));
        Checks.same(1, desk.pause(0, 1));
        Checks.same(1, desk.nextReminder(0));
        Checks.same(1, desk.pass(1));
    }

    @Says("It can wait for a note.")
    static void termsCaseCanWaitForANote() {
        DunningDesk desk = Desks.withCase(100, 0);
        desk.open(100, 0);
        Checks.no(desk.awaitNote(1));
        Checks.same(1, desk.pass(30));
        Checks.same(0, desk.withKey(1000));
        Checks.no(desk.awaitNote(0));
        Checks.yes(desk.awaitNote(1));
    }

    // ---- messages

    @Says("Messages. At most 80 messages are numbered from 0.")
    static void termsAtMost80Messages() {
        DunningDesk desk = new DunningDesk();
        for (int message = 0; message < 80; message++) {
            int next = message;
            Checks.refused(IndexOutOfBoundsException.class, () -> desk.state(next));
            Checks.same(message, desk.post(0, 900 - message, 'n', 0, 0, 0));
            Checks.same('h', desk.state(message));
        }
        Checks.refused(IllegalStateException.class, () -> desk.post(0, 901, 'n', 0, 0, 0));
        Checks.refused(IndexOutOfBoundsException.class, () -> desk.state(80));
    }

    @Says("A message is in one of the queues 0 to 2,")
    static void termsMessageIsInOneOfThreeQueues() {
        for (int queue = 0; queue < 3; queue++) {
            DunningDesk desk = Desks.withCase(100, 999);
            desk.post(queue, 7, 'n', 0, 0, 0);
            for (int other = 0; other < 3; other++) {
                Checks.same(other == queue ? 1 : 0, desk.ready(other));
            }
            Checks.same(0, desk.take(0, queue));
            desk.pass(5);
            desk.pass(2);
            Checks.same(1, desk.ready(queue));
        }
        DunningDesk none = Desks.withCase(100, 999);
        Checks.outside(0, 2, IllegalArgumentException.class, queue -> none.post(queue, 7, 'n', 0, 0, 0));
    }

    @Says("has a key, which no other message has,")
    static void termsKeyIsOfOneMessageAlone() {
        DunningDesk desk = Desks.withCase(100, 0);
        desk.pass(1);
        Checks.same(1, desk.post(1, 7, 'n', 0, 0, 0));
        Checks.same(2, desk.post(1, 8, 'n', 0, 0, 0));
        Checks.same(1, desk.post(2, 7, 'p', 1, 5, 3));
        Checks.same(0, desk.withKey(1000));
        Checks.same(1, desk.withKey(7));
        Checks.same(2, desk.withKey(8));
        Checks.refused(IndexOutOfBoundsException.class, () -> desk.state(3));
    }

    @Says("a kind, a case, a day from which it is ready, and tries, 0 at first.")
    static void termsMessageHasKindCaseDayAndTries() {
        DunningDesk desk = Desks.withCases(3);
        desk.post(2, 7, 'p', 1, 3, 4);
        Checks.same('p', desk.kind(0));
        Checks.same(4, desk.readyAt(0));
        Checks.same(0, desk.tries(0));
        desk.pass(3);
        Checks.same(0, desk.ready(2));
        desk.pass(1);
        Checks.same(0, desk.take(0, 2));
        Checks.same(0, desk.tries(0));
        Checks.yes(desk.finish(0));
        Checks.same(10, desk.amount(0));
        Checks.same(8, desk.amount(1));
        Checks.same(12, desk.amount(2));
    }

    @Says("Its kind is 'p' a payment, with a value,")
    static void termsPaymentHasAValue() {
        DunningDesk desk = Desks.withCase(100, 0);
        Checks.yes(Desks.postedAndFinished(desk, 1, 'p', 0, 30));
        Checks.same('p', desk.kind(0));
        Checks.same(70, desk.amount(0));
    }

    @Says("'n' a note,")
    static void termsNoteHasNoValue() {
        DunningDesk desk = Desks.withCase(100, 0);
        desk.awaitNote(0);
        Checks.yes(Desks.postedAndFinished(desk, 1, 'n', 0, 30));
        Checks.same('n', desk.kind(0));
        Checks.same(100, desk.amount(0));
        Checks.same(0, desk.letters(0));
    }

    @Says("or 'r' a reminder, with a step.")
    static void termsReminderHasAStep() {
        DunningDesk desk = Desks.withCase(100, 0);
        for (int step = 0; step < 3; step++) {
            desk.pass(7);
            Checks.same(step, desk.withKey(1000 + step));
            Checks.same('r', desk.kind(step));
            Checks.yes(Desks.reminded(desk, 0, step));
        }
        Checks.same(100, desk.amount(0));
    }

    @Says("Its state is 'h' if it is held, as its case is not there yet;")
    static void termsHeldWhileItsCaseIsNotThere() {
        DunningDesk desk = Desks.withCase(100, 0);
        desk.post(1, 7, 'n', 1, 0, 0);
        desk.post(1, 8, 'n', 0, 0, 0);
        desk.post(1, 9, 'n', 2, 0, 0);
        Checks.same('h', desk.state(0));
        Checks.same('w', desk.state(1));
        Checks.same('h', desk.state(2));
        Checks.same(1, desk.ready(1));
        desk.open(100, 0);
        Checks.same('w', desk.state(0));
        Checks.same('h', desk.state(2));
    }

    @Says("'w' if it waits;")
    static void termsWaitsReadyOrNot() {
        DunningDesk desk = Desks.withCase(100, 0);
        desk.post(1, 7, 'n', 0, 0, 1);
        Checks.same('w', desk.state(0));
        desk.pass(1);
        Checks.same('w', desk.state(0));
        Checks.same('w', desk.state(desk.withKey(1000)));
    }

    @Says("'t' if a clerk has taken it;")
    static void termsTakenByAClerk() {
        DunningDesk desk = Desks.withPayments(4);
        for (int clerk = 0; clerk < 4; clerk++) {
            Checks.same(clerk, desk.take(clerk, 1));
            Checks.same('t', desk.state(clerk));
            Checks.same(clerk, desk.clerk(clerk));
        }
    }

    @Says("'d' if it is done;")
    static void termsDoneWhenFinished() {
        DunningDesk desk = Desks.withPayments(2);
        desk.take(0, 1);
        Checks.yes(desk.finish(0));
        Checks.same('d', desk.state(0));
        Checks.same('w', desk.state(1));
        Desks.passTo(desk, 999);
        Checks.same('d', desk.state(0));
    }

    @Says("or 'x' if it is dead.")
    static void termsDeadAfterItsTries() {
        DunningDesk desk = Desks.withPayments(1);
        Desks.kill(desk, 1, 0);
        Checks.same('x', desk.state(0));
        Desks.passTo(desk, 999);
        Checks.same('x', desk.state(0));
    }

    // ---- clerks

    @Says("Clerks. There are the clerks 0 to 3.")
    static void termsThereAreFourClerks() {
        DunningDesk desk = Desks.withPayments(4);
        Checks.outside(0, 3, IllegalArgumentException.class, clerk -> desk.take(clerk, 1));
        Checks.outside(0, 3, IllegalArgumentException.class, desk::has);
        for (int clerk = 0; clerk < 4; clerk++) {
            Checks.same(0, desk.has(clerk));
            Checks.same(clerk, desk.take(clerk, 1));
            Checks.same(1, desk.has(clerk));
        }
    }

    @Says("A clerk has at most 2 messages that are taken.")
    static void termsClerkHasAtMost2Messages() {
        DunningDesk desk = Desks.withPayments(4);
        desk.post(0, 500, 'n', 0, 0, 0);
        Checks.same(0, desk.take(2, 1));
        Checks.same(1, desk.take(2, 1));
        Checks.refused(IllegalStateException.class, () -> desk.take(2, 1));
        Checks.refused(IllegalStateException.class, () -> desk.take(2, 0));
        Checks.same(2, desk.has(2));
        Checks.yes(desk.finish(0));
        Checks.same(2, desk.take(2, 1));
        Checks.refused(IllegalStateException.class, () -> desk.take(2, 1));
        Checks.same(1, desk.handBack(1));
        Checks.same(3, desk.take(2, 1));
        Checks.refused(IllegalStateException.class, () -> desk.take(2, 0));
        Checks.same(4, desk.take(1, 0));
    }

    @Says("From a queue, a clerk takes the message that waits and is ready,")
    static void termsOnlyWaitingAndReadyOnesAreTaken() {
        DunningDesk desk = Desks.withPayments(1);
        Desks.kill(desk, 1, 0);
        for (int message = 1; message < 4; message++) {
            desk.post(1, message, 'p', 0, 1, 0);
        }
        Checks.same(1, desk.take(1, 1));
        desk.finish(1);
        Checks.same(2, desk.take(1, 1));
        Checks.same(3, desk.take(1, 1));
        desk.post(1, 500, 'n', 1, 0, 0);
        desk.post(1, 501, 'n', 0, 0, 1);
        desk.post(0, 502, 'n', 0, 0, 0);
        Checks.refused(NoSuchElementException.class, () -> desk.take(0, 1));
        Checks.same(6, desk.take(0, 0));
        desk.pass(1);
        Checks.same(5, desk.take(0, 1));
    }

    @Says("of several the one that was ready from the earliest day,")
    static void termsEarliestDayIsTakenFirst() {
        DunningDesk desk = Desks.withCase(100, 999);
        desk.post(1, 1, 'n', 0, 0, 3);
        desk.post(1, 2, 'n', 0, 0, 1);
        desk.post(1, 3, 'n', 0, 0, 2);
        desk.pass(10);
        Checks.same(1, desk.take(0, 1));
        Checks.same(2, desk.take(1, 1));
        Checks.same(0, desk.take(2, 1));
    }

    @Says("and of several the one with the lowest number.")
    static void termsLowestNumberIsTakenFirst() {
        DunningDesk desk = Desks.withCase(100, 999);
        desk.post(1, 9, 'n', 0, 0, 2);
        desk.post(1, 8, 'n', 0, 0, 2);
        desk.pass(2);
        desk.post(1, 7, 'n', 0, 0, 0);
        Checks.same(0, desk.take(0, 1));
        Checks.same(1, desk.take(1, 1));
        Checks.same(2, desk.take(2, 1));
    }

    // ---- exceptions

    @Says("Exceptions. A method that throws an exception changes nothing.")
    static void termsRefusedCallsChangeNothing() {
        DunningDesk desk = Desks.mixed();
        DunningDesk untouched = Desks.mixed();
        Checks.refused(IllegalArgumentException.class, () -> desk.open(0, 5));
        Checks.refused(IllegalArgumentException.class, () -> desk.open(5, 1000));
        Checks.refused(IndexOutOfBoundsException.class, () -> desk.pause(4, 5));
        Checks.refused(IllegalArgumentException.class, () -> desk.pause(0, 61));
        Checks.refused(IllegalStateException.class, () -> desk.pause(1, 5));
        Checks.refused(IndexOutOfBoundsException.class, () -> desk.awaitNote(4));
        Checks.refused(IllegalStateException.class, () -> desk.awaitNote(1));
        Checks.refused(IllegalArgumentException.class, () -> desk.post(0, 600, 'p', 0, 1, 31));
        Checks.refused(IllegalArgumentException.class, () -> desk.take(4, 1));
        Checks.refused(IllegalStateException.class, () -> desk.take(1, 1));
        Checks.refused(NoSuchElementException.class, () -> desk.take(0, 2));
        Checks.refused(IndexOutOfBoundsException.class, () -> desk.finish(8));
        Checks.refused(IllegalStateException.class, () -> desk.finish(3));
        Checks.refused(IndexOutOfBoundsException.class, () -> desk.handBack(8));
        Checks.refused(IllegalStateException.class, () -> desk.handBack(3));
        Checks.refused(IndexOutOfBoundsException.class, () -> desk.revive(8));
        Checks.refused(IllegalStateException.class, () -> desk.revive(3));
        Checks.refused(IllegalArgumentException.class, () -> desk.pass(31));
        Checks.same(Looks.seen(untouched), Looks.seen(desk));
        Checks.same(Looks.later(untouched), Looks.later(desk));
    }

    @Says("If several exceptions apply, the one that is documented first is thrown.")
    static void termsFirstDocumentedExceptionIsThrown() {
        DunningDesk cases = Desks.withCases(8);
        Checks.refused(IllegalArgumentException.class, () -> cases.open(0, 5));
        Checks.refused(IllegalArgumentException.class, () -> cases.open(5, -1));
        DunningDesk paid = Desks.withPaidCase(5);
        Checks.refused(IndexOutOfBoundsException.class, () -> paid.pause(1, 0));
        Checks.refused(IllegalArgumentException.class, () -> paid.pause(0, 0));
        DunningDesk full = Desks.withPayments(80);
        Checks.refused(IllegalArgumentException.class, () -> full.post(3, 500, 'p', 0, 1, 0));
        Checks.refused(IllegalArgumentException.class, () -> full.post(0, 1000, 'p', 0, 1, 0));
        Checks.refused(IllegalArgumentException.class, () -> full.post(0, 500, 'r', 0, 1, 0));
        Checks.refused(IllegalArgumentException.class, () -> full.post(0, 500, 'p', 8, 1, 0));
        Checks.refused(IllegalArgumentException.class, () -> full.post(0, 500, 'p', 0, 10000, 0));
        Checks.refused(IllegalArgumentException.class, () -> full.post(0, 500, 'p', 0, 1, 31));
        Checks.refused(IllegalArgumentException.class, () -> full.readyAtPlace(3, 80));
        full.take(0, 1);
        full.take(0, 1);
        Checks.refused(IllegalArgumentException.class, () -> full.take(0, 3));
        Checks.refused(IllegalArgumentException.class, () -> full.take(4, 0));
        Checks.refused(IllegalStateException.class, () -> full.take(0, 0));
    }

    // ---- headings

    @Says("Ahead of the calls `open`, `amount`, `pause`, `awaitNote`, `letters`, `lettersByMessages`, `nextReminder`"
        + " the interface says: ---- cases.")
    static void termsHeadingOfCases() {
        Checks.same("open amount pause awaitNote letters lettersByMessages nextReminder", callsBehind("cases"));
    }

    @Says("Ahead of the calls `post`, `withKey`, `state`, `kind`, `tries`, `readyAt`, `ready`, `readyAtPlace` the"
        + " interface says: ---- messages.")
    static void termsHeadingOfMessages() {
        Checks.same("post withKey state kind tries readyAt ready readyAtPlace", callsBehind("messages"));
    }

    @Says("Ahead of the calls `take`, `finish`, `handBack`, `revive`, `clerk`, `has` the interface says: ---- clerks.")
    static void termsHeadingOfClerks() {
        Checks.same("take finish handBack revive clerk has", callsBehind("clerks"));
    }

    @Says("Ahead of the calls `pass`, `day`, `count`, `doneShare`, `meanAmount` the interface says: ---- days and"
        + " figures.")
    static void termsHeadingOfDaysAndFigures() {
        Checks.same("pass day count doneShare meanAmount", callsBehind("days and figures"));
    }

    /** The public calls between this heading of the source and the next one. */
    private static String callsBehind(String heading) {
        String[] parts;
        try {
            parts = Files.readString(Path.of(OwnTests.source)).split("(?m)^ *// ---- ");
        } catch (IOException e) {
            throw new AssertionError("the source can't be read: " + e);
        }
        StringBuilder calls = new StringBuilder();
        for (String part : parts) {
            if (part.startsWith(heading + "\n")) {
                Matcher call = Pattern.compile("(?m)^ {4}public \\w+ (\\w+)\\(").matcher(part);
                while (call.find()) {
                    calls.append(calls.length() == 0 ? "" : " ").append(call.group(1));
                }
            }
        }
        return calls.toString();
    }
}
