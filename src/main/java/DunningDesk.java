import java.util.NoSuchElementException;

/**
 * A message broker with clerks and a dunning desk: cases are opened, messages are posted, taken,
 * finished and handed back, days pass, and reminders go out by steps.
 */
public final class DunningDesk {
    private static final int LAST_DAY = 999;
    private static final int MOST_DAYS_PASSED = 30;

    private static final int MOST_CASES = 8;
    private static final int MOST_AMOUNT = 9999;
    private static final int MOST_DAYS_PAUSED = 60;
    private static final int MOST_LETTERS = 3;
    private static final int DAYS_BETWEEN_LETTERS = 7;

    private static final int MOST_MESSAGES = 80;
    private static final int QUEUES = 3;
    private static final int MOST_KEY = 999;
    private static final int MOST_VALUE = 9999;
    private static final int MOST_DELAY = 30;
    private static final int MOST_TRIES = 3;
    private static final int DAYS_BACK_PER_TRY = 2;

    private static final int REMINDER_QUEUE = 0;
    private static final int FIRST_REMINDER_KEY = 1000;
    private static final int REMINDER_KEYS_PER_CASE = 10;

    private static final int CLERKS = 4;
    private static final int MOST_TAKEN = 2;
    private static final int DAYS_TAKEN_AT_MOST = 5;

    private static final char PAYMENT = 'p';
    private static final char NOTE = 'n';
    private static final char REMINDER = 'r';

    private static final char HELD = 'h';
    private static final char WAITING = 'w';
    private static final char TAKEN = 't';
    private static final char DONE = 'd';
    private static final char DEAD = 'x';

    private static final int NONE = -1;

    private final CaseBook cases;
    private final MessageBook messages;
    private int today;

    public DunningDesk() {
        cases = new CaseBook();
        messages = new MessageBook();
        today = 0;
    }

    // ---- cases

    public int open(int amount, int due) throws IllegalArgumentException, IllegalStateException {
        if (!isWithin(amount, 1, MOST_AMOUNT) || !isWithin(due, 0, LAST_DAY)) {
            throw new IllegalArgumentException("the amount or the due day is out of range");
        }
        if (cases.isFull()) {
            throw new IllegalStateException("there are 8 cases");
        }
        int number = cases.add(amount, due);
        messages.release(number, today);
        return number;
    }

    public int amount(int number) throws IndexOutOfBoundsException {
        requireCase(number);
        return cases.amounts[number];
    }

    public int pause(int number, int days)
            throws IndexOutOfBoundsException, IllegalArgumentException, IllegalStateException {
        requireCase(number);
        if (!isWithin(days, 1, MOST_DAYS_PAUSED)) {
            throw new IllegalArgumentException("the number of days is out of range");
        }
        requireOpen(number);
        return cases.pauseUntil(number, today + days);
    }

    public boolean awaitNote(int number) throws IndexOutOfBoundsException, IllegalStateException {
        requireCase(number);
        requireOpen(number);
        boolean waitedBefore = cases.awaitsNote[number];
        cases.awaitsNote[number] = true;
        return waitedBefore;
    }

    public int letters(int number) throws IndexOutOfBoundsException {
        requireCase(number);
        return cases.lettersSent[number];
    }

    public int lettersByMessages(int number) throws IndexOutOfBoundsException {
        requireCase(number);
        return messages.lettersFrom(number, cases.firstAmounts[number]);
    }

    public int nextReminder(int number) throws IndexOutOfBoundsException, NoSuchElementException {
        requireCase(number);
        if (!isAnyReminderLeft(number)) {
            throw new NoSuchElementException("no reminder would be posted");
        }
        int earliest = Math.max(today + 1, cases.reminderDay(number));
        return Math.max(earliest, cases.pauseEnds[number]);
    }

    // ---- messages

    public int post(int queue, int key, char kind, int number, int value, int delay)
            throws IllegalArgumentException, IllegalStateException {
        requireQueue(queue);
        if (kind != PAYMENT && kind != NOTE) {
            throw new IllegalArgumentException("there is no such kind");
        }
        if (!isWithin(key, 0, MOST_KEY) || !isWithin(number, 0, MOST_CASES - 1)
                || !isWithin(value, 0, MOST_VALUE) || !isWithin(delay, 0, MOST_DELAY)) {
            throw new IllegalArgumentException("a number is out of range");
        }
        int known = messages.find(key);
        if (known != NONE) {
            return known;
        }
        if (messages.isFull()) {
            throw new IllegalStateException("there are 80 messages");
        }
        int message = messages.add(queue, key, kind, number, value, today + delay);
        if (!cases.contains(number)) {
            messages.states[message] = HELD;
        }
        return message;
    }

    public int withKey(int key) throws NoSuchElementException {
        int message = messages.find(key);
        if (message == NONE) {
            throw new NoSuchElementException("no message has this key");
        }
        return message;
    }

    public char state(int message) throws IndexOutOfBoundsException {
        requireMessage(message);
        return messages.states[message];
    }

    public char kind(int message) throws IndexOutOfBoundsException {
        requireMessage(message);
        return messages.kinds[message];
    }

    public int tries(int message) throws IndexOutOfBoundsException {
        requireMessage(message);
        return messages.triesMade[message];
    }

    public int readyAt(int message) throws IndexOutOfBoundsException, IllegalStateException {
        requireMessage(message);
        requireState(message, WAITING);
        return messages.readyDays[message];
    }

    public int ready(int queue) throws IllegalArgumentException {
        requireQueue(queue);
        return messages.countReady(queue, today);
    }

    public int readyAtPlace(int queue, int place) throws IllegalArgumentException, NoSuchElementException {
        requireQueue(queue);
        if (place < 0 || place >= messages.countReady(queue, today)) {
            throw new NoSuchElementException("there is no such place");
        }
        int message = messages.nextReady(queue, today, NONE);
        for (int passed = 0; passed < place; passed++) {
            message = messages.nextReady(queue, today, message);
        }
        return message;
    }

    // ---- clerks

    public int take(int clerk, int queue)
            throws IllegalArgumentException, IllegalStateException, NoSuchElementException {
        requireClerk(clerk);
        requireQueue(queue);
        if (messages.countTakenBy(clerk) >= MOST_TAKEN) {
            throw new IllegalStateException("the clerk has 2 messages");
        }
        int message = messages.nextReady(queue, today, NONE);
        if (message == NONE) {
            throw new NoSuchElementException("no message waits and is ready");
        }
        messages.giveTo(clerk, message, today);
        return message;
    }

    public boolean finish(int message) throws IndexOutOfBoundsException, IllegalStateException {
        requireMessage(message);
        requireState(message, TAKEN);
        messages.close(message);
        return settle(message);
    }

    public int handBack(int message) throws IndexOutOfBoundsException, IllegalStateException {
        requireMessage(message);
        requireState(message, TAKEN);
        messages.putBack(message, today);
        return messages.triesMade[message];
    }

    public int revive(int message) throws IndexOutOfBoundsException, IllegalStateException {
        requireMessage(message);
        requireState(message, DEAD);
        messages.wake(message, today);
        return messages.countIn(DEAD);
    }

    public int clerk(int message) throws IndexOutOfBoundsException, NoSuchElementException {
        requireMessage(message);
        if (messages.states[message] != TAKEN) {
            throw new NoSuchElementException("the message is not taken");
        }
        return messages.takers[message];
    }

    public int has(int clerk) throws IllegalArgumentException {
        requireClerk(clerk);
        return messages.countTakenBy(clerk);
    }

    // ---- days and figures

    public int pass(int days) throws IllegalArgumentException {
        if (!isWithin(days, 1, MOST_DAYS_PASSED) || today + days > LAST_DAY) {
            throw new IllegalArgumentException("the number of days is out of range");
        }
        int posted = 0;
        for (int passed = 0; passed < days; passed++) {
            today++;
            messages.putBackTakenUntil(today - DAYS_TAKEN_AT_MOST, today);
            posted += postReminders();
        }
        return posted;
    }

    public int day() {
        return today;
    }

    public int count(char state) throws IllegalArgumentException {
        if (state != HELD && state != WAITING && state != TAKEN && state != DONE && state != DEAD) {
            throw new IllegalArgumentException("there is no such state");
        }
        return messages.countIn(state);
    }

    public float doneShare() throws ArithmeticException {
        if (messages.size == 0) {
            throw new ArithmeticException("there are no messages");
        }
        return (float) messages.countIn(DONE) / (float) messages.size;
    }

    public double meanAmount() throws ArithmeticException {
        int openCases = cases.countOpen();
        if (openCases == 0) {
            throw new ArithmeticException("there are no open cases");
        }
        return (double) cases.sumOfAmounts() / (double) openCases;
    }

    // ---- what the calls share

    private static boolean isWithin(int number, int least, int most) {
        return number >= least && number <= most;
    }

    private void requireCase(int number) throws IndexOutOfBoundsException {
        if (!cases.contains(number)) {
            throw new IndexOutOfBoundsException("there is no such case");
        }
    }

    private void requireOpen(int number) throws IllegalStateException {
        if (!cases.isOpen(number)) {
            throw new IllegalStateException("the case is not open");
        }
    }

    private void requireMessage(int message) throws IndexOutOfBoundsException {
        if (!messages.contains(message)) {
            throw new IndexOutOfBoundsException("there is no such message");
        }
    }

    private void requireState(int message, char state) throws IllegalStateException {
        if (messages.states[message] != state) {
            throw new IllegalStateException("the message is in another state");
        }
    }

    private static void requireQueue(int queue) throws IllegalArgumentException {
        if (!isWithin(queue, 0, QUEUES - 1)) {
            throw new IllegalArgumentException("there is no such queue");
        }
    }

    private static void requireClerk(int clerk) throws IllegalArgumentException {
        if (!isWithin(clerk, 0, CLERKS - 1)) {
            throw new IllegalArgumentException("there is no such clerk");
        }
    }

    /** Carries out what a message says; tells whether its case changed. */
    private boolean settle(int message) {
        int number = messages.caseNumbers[message];
        // Held messages can't be taken, so the case is there; the test is for the index alone.
        if (!cases.contains(number)) {
            return false;
        }
        int content = messages.contents[message];
        char sort = messages.kinds[message];
        if (sort == PAYMENT) {
            return cases.pay(number, content);
        }
        if (sort == NOTE) {
            return cases.endWait(number);
        }
        return cases.sendLetter(number, content);
    }

    private static int reminderKey(int number, int step) {
        return FIRST_REMINDER_KEY + REMINDER_KEYS_PER_CASE * number + step;
    }

    /** Whether a reminder would ever be posted if only days passed and there was room. */
    private boolean isAnyReminderLeft(int number) {
        int step = cases.lettersSent[number];
        return cases.isOpen(number) && !cases.awaitsNote[number] && step < MOST_LETTERS
                && messages.find(reminderKey(number, step)) == NONE;
    }

    private boolean isReminderDue(int number) {
        return isAnyReminderLeft(number) && today >= cases.pauseEnds[number]
                && today >= cases.reminderDay(number);
    }

    private int postReminders() {
        int posted = 0;
        for (int number = 0; number < cases.size; number++) {
            if (!messages.isFull() && isReminderDue(number)) {
                int step = cases.lettersSent[number];
                messages.add(REMINDER_QUEUE, reminderKey(number, step), REMINDER, number, step, today);
                posted++;
            }
        }
        return posted;
    }

    /** The cases, a row for each of their properties; callers test a number with contains. */
    private static final class CaseBook {
        private final int[] firstAmounts = new int[MOST_CASES];
        private final int[] amounts = new int[MOST_CASES];
        private final int[] dueDays = new int[MOST_CASES];
        private final int[] lettersSent = new int[MOST_CASES];
        private final int[] pauseEnds = new int[MOST_CASES];
        private final boolean[] awaitsNote = new boolean[MOST_CASES];
        private int size;

        private boolean contains(int number) {
            return number >= 0 && number < size;
        }

        private boolean isFull() {
            return size >= MOST_CASES;
        }

        /** The caller sees to it that the book is not full. */
        private int add(int firstAmount, int dueDay) {
            int number = size;
            firstAmounts[number] = firstAmount;
            amounts[number] = firstAmount;
            dueDays[number] = dueDay;
            size++;
            return number;
        }

        private boolean isOpen(int number) {
            return amounts[number] > 0;
        }

        private int pauseUntil(int number, int end) {
            pauseEnds[number] = Math.max(pauseEnds[number], end);
            return pauseEnds[number];
        }

        /** The first day on which the case's next letter may be asked for, pauses aside. */
        private int reminderDay(int number) {
            return dueDays[number] + DAYS_BETWEEN_LETTERS * lettersSent[number] + 1;
        }

        private boolean pay(int number, int value) {
            int before = amounts[number];
            amounts[number] = Math.max(0, before - value);
            return amounts[number] != before;
        }

        private boolean endWait(int number) {
            boolean waitedBefore = awaitsNote[number];
            awaitsNote[number] = false;
            return waitedBefore;
        }

        private boolean sendLetter(int number, int step) {
            if (!isOpen(number) || lettersSent[number] != step) {
                return false;
            }
            lettersSent[number]++;
            return true;
        }

        private int countOpen() {
            int open = 0;
            for (int number = 0; number < size; number++) {
                if (isOpen(number)) {
                    open++;
                }
            }
            return open;
        }

        /** Cases that are not open owe 0, so this is the sum of the open ones, too. */
        private int sumOfAmounts() {
            int sum = 0;
            for (int number = 0; number < size; number++) {
                sum += amounts[number];
            }
            return sum;
        }
    }

    /** The messages, a row for each of their properties; callers test a number with contains. */
    private static final class MessageBook {
        private final int[] queues = new int[MOST_MESSAGES];
        private final int[] keys = new int[MOST_MESSAGES];
        private final char[] kinds = new char[MOST_MESSAGES];
        private final int[] caseNumbers = new int[MOST_MESSAGES];
        // The value of a payment or the step of a reminder.
        private final int[] contents = new int[MOST_MESSAGES];
        private final char[] states = new char[MOST_MESSAGES];
        private final int[] readyDays = new int[MOST_MESSAGES];
        private final int[] triesMade = new int[MOST_MESSAGES];
        // Of meaning only while the message is taken.
        private final int[] takers = new int[MOST_MESSAGES];
        private final int[] takenDays = new int[MOST_MESSAGES];
        // The numbers of the messages that are done, in the order in which they were.
        private final int[] doneOrder = new int[MOST_MESSAGES];
        private int doneSize;
        private int size;

        private boolean contains(int message) {
            return message >= 0 && message < size;
        }

        private boolean isFull() {
            return size >= MOST_MESSAGES;
        }

        private int find(int key) {
            for (int message = 0; message < size; message++) {
                if (keys[message] == key) {
                    return message;
                }
            }
            return NONE;
        }

        /** The caller sees to it that the book is not full, and that no message has the key. */
        private int add(int queue, int key, char sort, int caseNumber, int content, int readyDay) {
            int message = size;
            queues[message] = queue;
            keys[message] = key;
            kinds[message] = sort;
            caseNumbers[message] = caseNumber;
            contents[message] = content;
            readyDays[message] = readyDay;
            states[message] = WAITING;
            size++;
            return message;
        }

        private void release(int caseNumber, int today) {
            for (int message = 0; message < size; message++) {
                if (states[message] == HELD && caseNumbers[message] == caseNumber) {
                    states[message] = WAITING;
                    readyDays[message] = Math.max(readyDays[message], today);
                }
            }
        }

        private boolean isReady(int message, int queue, int today) {
            return queues[message] == queue && states[message] == WAITING && readyDays[message] <= today;
        }

        private int countReady(int queue, int today) {
            int found = 0;
            for (int message = 0; message < size; message++) {
                if (isReady(message, queue, today)) {
                    found++;
                }
            }
            return found;
        }

        private boolean goesBefore(int message, int other) {
            if (readyDays[message] != readyDays[other]) {
                return readyDays[message] < readyDays[other];
            }
            return message < other;
        }

        /** The ready message that would be taken next behind another, or first of all behind NONE. */
        private int nextReady(int queue, int today, int previous) {
            int next = NONE;
            for (int message = 0; message < size; message++) {
                if (isReady(message, queue, today)
                        && (previous == NONE || goesBefore(previous, message))
                        && (next == NONE || goesBefore(message, next))) {
                    next = message;
                }
            }
            return next;
        }

        private void giveTo(int taker, int message, int today) {
            states[message] = TAKEN;
            takers[message] = taker;
            takenDays[message] = today;
        }

        private int countTakenBy(int taker) {
            int found = 0;
            for (int message = 0; message < size; message++) {
                if (states[message] == TAKEN && takers[message] == taker) {
                    found++;
                }
            }
            return found;
        }

        private int countIn(char wanted) {
            int found = 0;
            for (int message = 0; message < size; message++) {
                if (states[message] == wanted) {
                    found++;
                }
            }
            return found;
        }

        /** Only taken messages are closed, and none twice, so there always is room in the order. */
        private void close(int message) {
            states[message] = DONE;
            if (doneSize < MOST_MESSAGES) {
                doneOrder[doneSize] = message;
                doneSize++;
            }
        }

        private void putBack(int message, int today) {
            triesMade[message]++;
            if (triesMade[message] >= MOST_TRIES) {
                states[message] = DEAD;
            } else {
                states[message] = WAITING;
                readyDays[message] = today + DAYS_BACK_PER_TRY * triesMade[message];
            }
        }

        private void putBackTakenUntil(int lastDay, int today) {
            for (int message = 0; message < size; message++) {
                if (states[message] == TAKEN && takenDays[message] <= lastDay) {
                    putBack(message, today);
                }
            }
        }

        private void wake(int message, int today) {
            states[message] = WAITING;
            readyDays[message] = today;
            triesMade[message] = 0;
        }

        /** Plays the done messages of a case again, as a letter counts only if the case was open then. */
        private int lettersFrom(int caseNumber, int firstAmount) {
            int owed = firstAmount;
            int sent = 0;
            for (int place = 0; place < doneSize; place++) {
                int message = doneOrder[place];
                if (contains(message) && caseNumbers[message] == caseNumber) {
                    if (kinds[message] == PAYMENT) {
                        owed = Math.max(0, owed - contents[message]);
                    } else if (kinds[message] == REMINDER && owed > 0 && contents[message] == sent) {
                        sent++;
                    }
                }
            }
            return sent;
        }
    }
}
