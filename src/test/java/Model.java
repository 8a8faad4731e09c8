import java.util.ArrayList;
import java.util.Comparator;
import java.util.List;
import java.util.NoSuchElementException;

/**
 * The document once more, in the plainest words that the whole library allows: lists of objects, and
 * nothing kept that can be found from them. ModelTest compares the class with it.
 */
public final class Model {
    private static final class Case {
        int first;
        int due;
        int paidOff;
        int pausedUntil;
        boolean waits;
        int letters;

        int owed() {
            return first - paidOff;
        }
    }

    private static final class Message {
        int number;
        int queue;
        int key;
        char kind;
        int caseNumber;
        int value;
        int ready;
        int tries;
        char state;
        int clerk;
        int taken;
    }

    private final List<Case> cases = new ArrayList<>();
    private final List<Message> messages = new ArrayList<>();
    private final List<Message> done = new ArrayList<>();
    private int day;

    private Case caseOf(int number) {
        if (number < 0 || number >= cases.size()) {
            throw new IndexOutOfBoundsException();
        }
        return cases.get(number);
    }

    private Message messageOf(int number) {
        if (number < 0 || number >= messages.size()) {
            throw new IndexOutOfBoundsException();
        }
        return messages.get(number);
    }

    private static void argument(boolean holds) {
        if (!holds) {
            throw new IllegalArgumentException();
        }
    }

    private static void condition(boolean holds) {
        if (!holds) {
            throw new IllegalStateException();
        }
    }

    private static void found(boolean holds) {
        if (!holds) {
            throw new NoSuchElementException();
        }
    }

    /** For ModelTest alone, which picks messages by it. */
    int messageCount() {
        return messages.size();
    }

    private Message keyed(int key) {
        return messages.stream().filter(m -> m.key == key).findFirst().orElse(null);
    }

    private List<Message> inOrder(int queue) {
        return messages.stream().filter(m -> m.queue == queue && m.state == 'w' && m.ready <= day)
            .sorted(Comparator.comparingInt((Message m) -> m.ready).thenComparingInt(m -> m.number)).toList();
    }

    private Message posted(int queue, int key, char kind, int number, int value, int ready) {
        Message m = new Message();
        m.number = messages.size();
        m.queue = queue;
        m.key = key;
        m.kind = kind;
        m.caseNumber = number;
        m.value = value;
        m.ready = ready;
        m.state = number < cases.size() ? 'w' : 'h';
        messages.add(m);
        return m;
    }

    public int open(int amount, int due) {
        argument(amount >= 1 && amount <= 9999 && due >= 0 && due <= 999);
        condition(cases.size() < 8);
        Case c = new Case();
        c.first = amount;
        c.due = due;
        cases.add(c);
        int number = cases.size() - 1;
        for (Message m : messages) {
            if (m.caseNumber == number) {
                m.state = 'w';
                m.ready = Math.max(m.ready, day);
            }
        }
        return number;
    }

    public int amount(int number) {
        return caseOf(number).owed();
    }

    public int pause(int number, int days) {
        Case c = caseOf(number);
        argument(days >= 1 && days <= 60);
        condition(c.owed() > 0);
        c.pausedUntil = Math.max(c.pausedUntil, day + days);
        return c.pausedUntil;
    }

    public boolean awaitNote(int number) {
        Case c = caseOf(number);
        condition(c.owed() > 0);
        boolean before = c.waits;
        c.waits = true;
        return before;
    }

    public int letters(int number) {
        return caseOf(number).letters;
    }

    public int lettersByMessages(int number) {
        Case c = caseOf(number);
        int owed = c.first;
        int letters = 0;
        for (Message m : done) {
            if (m.caseNumber != number) {
                continue;
            }
            if (m.kind == 'p') {
                owed -= Math.min(owed, m.value);
            }
            if (m.kind == 'r' && owed > 0 && m.value == letters) {
                letters++;
            }
        }
        return letters;
    }

    public int nextReminder(int number) {
        Case c = caseOf(number);
        found(c.owed() > 0 && !c.waits && c.letters < 3 && keyed(1000 + 10 * number + c.letters) == null);
        return Math.max(Math.max(day + 1, c.due + 7 * c.letters + 1), c.pausedUntil);
    }

    public int post(int queue, int key, char kind, int number, int value, int delay) {
        argument(queue >= 0 && queue <= 2);
        argument(key >= 0 && key <= 999);
        argument(kind == 'p' || kind == 'n');
        argument(number >= 0 && number <= 7);
        argument(value >= 0 && value <= 9999);
        argument(delay >= 0 && delay <= 30);
        Message known = keyed(key);
        if (known != null) {
            return known.number;
        }
        condition(messages.size() < 80);
        return posted(queue, key, kind, number, value, day + delay).number;
    }

    public int withKey(int key) {
        Message m = keyed(key);
        found(m != null);
        return m.number;
    }

    public char state(int message) {
        return messageOf(message).state;
    }

    public char kind(int message) {
        return messageOf(message).kind;
    }

    public int tries(int message) {
        return messageOf(message).tries;
    }

    public int readyAt(int message) {
        condition(messageOf(message).state == 'w');
        return messageOf(message).ready;
    }

    public int ready(int queue) {
        argument(queue >= 0 && queue <= 2);
        return inOrder(queue).size();
    }

    public int readyAtPlace(int queue, int place) {
        argument(queue >= 0 && queue <= 2);
        List<Message> order = inOrder(queue);
        found(place >= 0 && place < order.size());
        return order.get(place).number;
    }

    public int take(int clerk, int queue) {
        argument(clerk >= 0 && clerk <= 3 && queue >= 0 && queue <= 2);
        condition(has(clerk) < 2);
        found(!inOrder(queue).isEmpty());
        Message m = inOrder(queue).get(0);
        m.state = 't';
        m.clerk = clerk;
        m.taken = day;
        return m.number;
    }

    public boolean finish(int message) {
        Message m = messageOf(message);
        condition(m.state == 't');
        m.state = 'd';
        done.add(m);
        Case c = cases.get(m.caseNumber);
        boolean changed = false;
        switch (m.kind) {
            case 'p' -> {
                int part = Math.min(m.value, c.owed());
                c.paidOff += part;
                changed = part > 0;
            }
            case 'n' -> {
                changed = c.waits;
                c.waits = false;
            }
            default -> {
                changed = c.owed() > 0 && c.letters == m.value;
                c.letters += changed ? 1 : 0;
            }
        }
        return changed;
    }

    public int handBack(int message) {
        Message m = messageOf(message);
        condition(m.state == 't');
        m.tries++;
        m.state = m.tries == 3 ? 'x' : 'w';
        m.ready = day + 2 * m.tries;
        return m.tries;
    }

    public int revive(int message) {
        Message m = messageOf(message);
        condition(m.state == 'x');
        m.state = 'w';
        m.tries = 0;
        m.ready = day;
        return count('x');
    }

    public int clerk(int message) {
        Message m = messageOf(message);
        found(m.state == 't');
        return m.clerk;
    }

    public int has(int clerk) {
        argument(clerk >= 0 && clerk <= 3);
        return (int) messages.stream().filter(m -> m.state == 't' && m.clerk == clerk).count();
    }

    public int pass(int days) {
        argument(days >= 1 && days <= 30 && day + days <= 999);
        int before = messages.size();
        for (int last = day + days; day < last;) {
            day++;
            messages.stream().filter(m -> m.state == 't' && day - m.taken >= 5).toList()
                .forEach(m -> handBack(m.number));
            for (int number = 0; number < cases.size(); number++) {
                Case c = cases.get(number);
                int s = c.letters;
                int key = 1000 + 10 * number + s;
                if (c.owed() > 0 && !(day < c.pausedUntil) && !c.waits && s < 3 && !(day < c.due + 7 * s + 1)
                        && keyed(key) == null && messages.size() < 80) {
                    posted(0, key, 'r', number, s, day);
                }
            }
        }
        return messages.size() - before;
    }

    public int day() {
        return day;
    }

    public int count(char state) {
        argument("hwtdx".indexOf(state) >= 0);
        return (int) messages.stream().filter(m -> m.state == state).count();
    }

    public float doneShare() {
        if (messages.isEmpty()) {
            throw new ArithmeticException();
        }
        return (float) done.size() / (float) messages.size();
    }

    public double meanAmount() {
        List<Case> open = cases.stream().filter(c -> c.owed() > 0).toList();
        if (open.isEmpty()) {
            throw new ArithmeticException();
        }
        return (double) open.stream().mapToInt(Case::owed).sum() / (double) open.size();
    }
}
