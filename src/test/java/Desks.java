import java.util.StringJoiner;

/** Desks in states that several tests start from, and one text of all that can be seen of a desk. */
final class Desks {
    private Desks() {
    }

    /** One open case. */
    static DunningDesk withCase(int amount, int due) {
        DunningDesk desk = new DunningDesk();
        desk.open(amount, due);
        return desk;
    }

    /** Case 0 owes 100 and is due on day 999; messages 0, 1, .. with keys 0, 1, .. pay 1 each, in queue 1. */
    static DunningDesk withPayments(int messages) {
        DunningDesk desk = withCase(100, 999);
        for (int message = 0; message < messages; message++) {
            desk.post(1, message, 'p', 0, 1, 0);
        }
        return desk;
    }

    static int postedAndTaken(DunningDesk desk, int key, char kind, int number, int value) {
        int message = desk.post(2, key, kind, number, value, 0);
        Checks.same(message, desk.take(3, 2));
        return message;
    }

    static boolean postedAndFinished(DunningDesk desk, int key, char kind, int number, int value) {
        return desk.finish(postedAndTaken(desk, key, kind, number, value));
    }

    /** Lets clerk 0 take a message that is ready and hand it back until it is dead; 6 days pass. */
    static void kill(DunningDesk desk, int queue, int message) {
        for (int tries = 1; tries <= 3; tries++) {
            Checks.same(message, desk.take(0, queue));
            Checks.same(tries, desk.handBack(message));
            if (tries < 3) {
                desk.pass(2 * tries);
            }
        }
    }

    /**
     * Something of everything, on day 6: case 0 owes 500, case 1 is paid, case 2 has one letter, is
     * paused until day 40 and waits for a note. Message 0 is done, 1 dead, 2 taken by clerk 1, 3 waits
     * and is ready, 4 is held for case 5, 5 is a reminder that is done, 6 a reminder that clerk 1 has
     * taken, 7 waits for a later day.
     */
    static DunningDesk mixed() {
        DunningDesk desk = new DunningDesk();
        desk.open(500, 3);
        desk.open(10, 300);
        desk.open(700, 0);
        desk.post(1, 20, 'p', 1, 10, 0);
        Checks.same(0, desk.take(0, 1));
        Checks.yes(desk.finish(0));
        desk.post(2, 21, 'n', 0, 0, 0);
        desk.post(1, 22, 'p', 0, 30, 0);
        desk.post(1, 23, 'p', 0, 40, 1);
        desk.post(0, 24, 'n', 5, 0, 0);
        kill(desk, 2, 1);
        Checks.same(5, desk.withKey(1020));
        Checks.same(5, desk.take(2, 0));
        Checks.yes(desk.finish(5));
        Checks.same(6, desk.withKey(1000));
        Checks.same(6, desk.take(1, 0));
        Checks.same(7, desk.post(1, 25, 'p', 2, 50, 9));
        Checks.same(2, desk.take(1, 1));
        Checks.same(40, desk.pause(2, 34));
        Checks.no(desk.awaitNote(2));
        return desk;
    }

    /** All that the desk tells of its first cases and messages, one line. */
    static String seen(DunningDesk desk, int cases, int messages) {
        StringJoiner seen = new StringJoiner(" ");
        for (int i = 0; i < cases; i++) {
            int number = i;
            seen.add(Checks.told(() -> desk.amount(number)));
            seen.add(Checks.told(() -> desk.letters(number)));
            seen.add(Checks.told(() -> desk.lettersByMessages(number)));
            seen.add(Checks.told(() -> desk.nextReminder(number)));
        }
        for (int i = 0; i < messages; i++) {
            int message = i;
            seen.add(Checks.told(() -> desk.state(message)));
            seen.add(Checks.told(() -> desk.kind(message)));
            seen.add(Checks.told(() -> desk.tries(message)));
            seen.add(Checks.told(() -> desk.readyAt(message)));
            seen.add(Checks.told(() -> desk.clerk(message)));
        }
        for (int queue = 0; queue < 3; queue++) {
            seen.add("queue");
            int ready = desk.ready(queue);
            for (int place = 0; place < ready; place++) {
                seen.add(String.valueOf(desk.readyAtPlace(queue, place)));
            }
        }
        for (int clerk = 0; clerk < 4; clerk++) {
            seen.add(String.valueOf(desk.has(clerk)));
        }
        for (char state : "hwtdx".toCharArray()) {
            seen.add(String.valueOf(desk.count(state)));
        }
        seen.add(Checks.told(desk::doneShare)).add(Checks.told(desk::meanAmount));
        return seen.add("day " + desk.day()).toString();
    }
}
