import java.util.ArrayList;
import java.util.List;
import java.util.function.Supplier;

/** Desks in states that several tests start from, and deeds that several tests do. */
final class Desks {
    private Desks() {
    }

    /** One open case. */
    static DunningDesk withCase(int amount, int due) {
        DunningDesk desk = new DunningDesk();
        desk.open(amount, due);
        return desk;
    }

    /** One case that owed 10 and is paid, by message 0, whose key is 999. */
    static DunningDesk withPaidCase(int due) {
        DunningDesk desk = withCase(10, due);
        Checks.yes(postedAndFinished(desk, 999, 'p', 0, 10));
        Checks.same(0, desk.amount(0));
        return desk;
    }

    /** Cases 0, 1, .. owe 10, 11, .. and are due on the days 100, 101, .. */
    static DunningDesk withCases(int cases) {
        DunningDesk desk = new DunningDesk();
        for (int number = 0; number < cases; number++) {
            Checks.same(number, desk.open(10 + number, 100 + number));
        }
        return desk;
    }

    /** Case 0 owes 100 and is due on day 999; messages 0, 1, .. with keys 0, 1, .. pay 1 each, in queue 1. */
    static DunningDesk withPayments(int messages) {
        DunningDesk desk = withCase(100, 999);
        for (int message = 0; message < messages; message++) {
            desk.post(1, message, 'p', 0, 1, 0);
        }
        return desk;
    }

    /** As many messages as are needed to make the last one this number, and that in this state, in queue 2. */
    static DunningDesk withMessageIn(char state, int message) {
        DunningDesk desk = withPayments(message);
        Checks.same(message, desk.post(2, 999, 'p', state == 'h' ? 7 : 0, 1, 0));
        if (state == 't' || state == 'd') {
            desk.take(3, 2);
        }
        if (state == 'd') {
            desk.finish(message);
        }
        if (state == 'x') {
            kill(desk, 2, message);
        }
        Checks.same(state, desk.state(message));
        return desk;
    }

    /** Lets days pass up to this one; tells how many reminders were posted. */
    static int passTo(DunningDesk desk, int day) {
        int posted = 0;
        for (int left = day - desk.day(); left > 0; left -= 30) {
            posted += desk.pass(Math.min(30, left));
        }
        Checks.same(day, desk.day());
        return posted;
    }

    /** Lets clerk 3 take a reminder, which must be the first one in queue 0, and finish it. */
    static boolean reminded(DunningDesk desk, int number, int step) {
        int message = desk.withKey(1000 + 10 * number + step);
        Checks.same(message, desk.take(3, 0));
        return desk.finish(message);
    }

    static int postedAndTaken(DunningDesk desk, int key, char kind, int number, int value) {
        int message = desk.post(2, key, kind, number, value, 0);
        Checks.same(message, desk.take(3, 2));
        return message;
    }

    static boolean postedAndFinished(DunningDesk desk, int key, char kind, int number, int value) {
        return desk.finish(postedAndTaken(desk, key, kind, number, value));
    }

    /** Lets clerk 0 take a message that is ready and hand it back until it is dead; 6 days pass. */
    static void kill(DunningDesk desk, int queue, int message) {
        for (int tries = 1; tries <= 3; tries++) {
            Checks.same(message, desk.take(0, queue));
            Checks.same(tries, desk.handBack(message));
            if (tries < 3) {
                desk.pass(2 * tries);
            }
        }
    }

    /**
     * Something of everything, on day 6: case 0 owes 500 and gets its first reminder tomorrow, case 1 is
     * paid, case 2 has one letter, is paused until day 40 and waits for a note, and case 3 has a reminder.
     * Message 0 is done, 1 dead, 2 taken by clerk 1, 3 waits and is ready, 4 is held for case 5, 5 is a
     * reminder that is done, 6 a reminder that clerk 1 has taken, 7 waits for a later day.
     */
    static DunningDesk mixed() {
        DunningDesk desk = new DunningDesk();
        desk.open(500, 6);
        desk.open(10, 300);
        desk.open(700, 0);
        desk.open(300, 3);
        desk.post(1, 20, 'p', 1, 10, 0);
        Checks.same(0, desk.take(0, 1));
        Checks.yes(desk.finish(0));
        desk.post(2, 21, 'n', 0, 0, 0);
        desk.post(1, 22, 'p', 0, 30, 0);
        desk.post(1, 23, 'p', 0, 40, 1);
        desk.post(0, 24, 'n', 5, 0, 0);
        kill(desk, 2, 1);
        Checks.same(5, desk.withKey(1020));
        Checks.same(5, desk.take(2, 0));
        Checks.yes(desk.finish(5));
        Checks.same(6, desk.withKey(1030));
        Checks.same(6, desk.take(1, 0));
        Checks.same(7, desk.post(1, 25, 'p', 2, 50, 9));
        Checks.same(2, desk.take(1, 1));
        Checks.same(40, desk.pause(2, 34));
        Checks.no(desk.awaitNote(2));
        return desk;
    }

    /** Desks in which each state of cases and messages is found, of the first and the last ones, too. */
    static List<Supplier<DunningDesk>> ofAllKinds() {
        List<Supplier<DunningDesk>> desks = new ArrayList<>();
        desks.add(DunningDesk::new);
        desks.add(Desks::mixed);
        desks.add(() -> withPaidCase(5));
        desks.add(() -> withCase(100, 0));
        desks.add(() -> {
            DunningDesk waiting = withCases(2);
            waiting.awaitNote(0);
            waiting.pause(1, 60);
            return waiting;
        });
        for (char state : "hwtdx".toCharArray()) {
            desks.add(() -> withMessageIn(state, 0));
            desks.add(() -> withMessageIn(state, 79));
        }
        return desks;
    }
}
