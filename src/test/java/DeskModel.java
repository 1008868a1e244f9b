import java.util.ArrayList;
import java.util.Comparator;
import java.util.HashMap;
import java.util.List;
import java.util.Map;
import java.util.NoSuchElementException;
import java.util.Optional;
import java.util.TreeSet;
import java.util.function.Predicate;

/**
 * The document once more, in its plainest form: minute by minute, everything looked up anew, no queues. The random
 * runs compare the program with it.
 */
public final class DeskModel {
    static final class Ticket {
        final int number;
        final int customer;
        final int subject;
        final TreeSet<Integer> mails = new TreeSet<>();
        int topic;
        char state = 'o';
        int clock;
        boolean breached;
        Integer agent;
        int handed;
        Integer preparedSent;
        int closedAt;
        Ticket into;

        Ticket(int number, int customer, int subject, int topic) {
            this.number = number;
            this.customer = customer;
            this.subject = subject;
            this.topic = topic;
        }

        boolean active() {
            return state == 'o' || state == 'h';
        }
    }

    final List<Ticket> all = new ArrayList<>();
    final List<TreeSet<Integer>> skills = new ArrayList<>();
    final List<Boolean> onShift = new ArrayList<>();
    final List<Integer> answerWords = new ArrayList<>();
    final List<Integer> mailWords = new ArrayList<>();
    private final Map<String, Integer> weights = new HashMap<>();
    private final int[] level = new int[8];
    private final int[] promise = {240, 120, 30};
    private final List<Integer> clocksAnswered = new ArrayList<>();
    private int time;
    private int breaches;
    private int kept;
    private long minutesOpen;

    private static void require(boolean holds, RuntimeException otherwise) {
        if (!holds) {
            throw otherwise;
        }
    }

    private static void inRange(int number, int least, int greatest) {
        require(least <= number && number <= greatest, new IllegalArgumentException());
    }

    private static void inState(boolean holds) {
        require(holds, new IllegalStateException());
    }

    private static void exists(boolean holds) {
        require(holds, new NoSuchElementException());
    }

    private Ticket at(int ticket) {
        require(ticket >= 0 && ticket < all.size(), new IndexOutOfBoundsException());
        return all.get(ticket);
    }

    private void agent(int agent) {
        require(agent >= 0 && agent < skills.size(), new IndexOutOfBoundsException());
    }

    private int promiseOf(Ticket t) {
        return promise[level[t.customer]];
    }

    private boolean canAnswer(int agent, Ticket t) {
        return onShift.get(agent) && skills.get(agent).contains(t.topic);
    }

    private int count(Predicate<Ticket> which) {
        return (int) all.stream().filter(which).count();
    }

    private int wordsOf(Ticket t) {
        return t.mails.stream().map(mailWords::get).reduce(0, (a, b) -> a | b);
    }

    private Optional<Ticket> next(int agent) {
        return all.stream().filter(t -> t.state == 'o' && t.agent == null && canAnswer(agent, t))
            .min(Comparator.<Ticket>comparingInt(t -> promiseOf(t) - t.clock)
                .thenComparingInt(t -> -level[t.customer])
                .thenComparingInt(t -> t.number));
    }

    public int pass(int minutes) {
        inRange(minutes, 1, 600);
        int broken = 0;
        for (int minute = 0; minute < minutes; minute++) {
            time++;
            for (Ticket t : all) {
                if (t.state != 'o') {
                    continue;
                }
                t.clock++;
                minutesOpen++;
                if (t.clock > promiseOf(t) && !t.breached) {
                    t.breached = true;
                    broken++;
                }
            }
        }
        breaches += broken;
        return broken;
    }

    public int time() {
        return time;
    }

    public int setClass(int customer, int newLevel) {
        inRange(customer, 0, 7);
        inRange(newLevel, 0, 2);
        int before = level[customer];
        level[customer] = newLevel;
        return before;
    }

    public int setPromise(int ofLevel, int minutes) {
        inRange(ofLevel, 0, 2);
        inRange(minutes, 1, 9999);
        int before = promise[ofLevel];
        promise[ofLevel] = minutes;
        return before;
    }

    private boolean counts(Ticket t) {
        return t.active() || t.state == 'a' || t.state == 'c' && time - t.closedAt <= 1440;
    }

    private Ticket home(int mail) {
        return all.stream().filter(t -> t.mails.contains(mail)).findFirst().orElseThrow();
    }

    public int mail(int customer, int subject, int answered, int topic, int words) {
        inRange(customer, 0, 7);
        inRange(subject, 0, 19);
        inRange(topic, 0, 5);
        inRange(words, 0, 1023);
        exists(answered == -1 || answered >= 0 && answered < mailWords.size());
        inState(mailWords.size() < 80);
        Ticket joined = null;
        if (answered != -1 && home(answered).customer == customer && counts(home(answered))) {
            joined = home(answered);
        }
        for (int m = mailWords.size() - 1; m >= 0 && joined == null; m--) {
            Ticket t = home(m);
            if (t.customer == customer && t.subject == subject && counts(t)) {
                joined = t;
            }
        }
        if (joined == null) {
            inState(all.size() < 40);
            joined = new Ticket(all.size(), customer, subject, topic);
            all.add(joined);
        }
        joined.mails.add(mailWords.size());
        mailWords.add(words);
        if (joined.state == 'a' && joined.preparedSent != null) {
            weights.merge(joined.preparedSent + "/" + joined.topic, 0, (w, x) -> Math.max(0, w - 1));
        }
        if (joined.state == 'a' || joined.state == 'c') {
            joined.preparedSent = null;
            joined.state = 'o';
            joined.clock = 0;
            joined.breached = false;
        }
        return joined.number;
    }

    public int ticketOf(int mail) {
        exists(mail >= 0 && mail < mailWords.size());
        return home(mail).number;
    }

    public int mails() {
        return mailWords.size();
    }

    public int mailsOf(int ticket) {
        return at(ticket).mails.size();
    }

    public int mailAt(int ticket, int index) {
        Ticket t = at(ticket);
        exists(index >= 0 && index < t.mails.size());
        return new ArrayList<>(t.mails).get(index);
    }

    public int tickets() {
        return all.size();
    }

    public char stateOf(int ticket) {
        return at(ticket).state;
    }

    private Ticket end(Ticket t) {
        return t.into == null ? t : end(t.into);
    }

    public int mergedInto(int ticket) {
        Ticket t = at(ticket);
        exists(t.state == 'm');
        return end(t).number;
    }

    public int setTopic(int ticket, int topic) {
        Ticket t = at(ticket);
        inRange(topic, 0, 5);
        inState(t.active());
        int before = t.topic;
        t.topic = topic;
        if (t.agent != null && !skills.get(t.agent).contains(topic)) {
            t.agent = null;
        }
        return before;
    }

    public int clock(int ticket) {
        Ticket t = at(ticket);
        inState(t.active());
        return t.clock;
    }

    public int leftOf(int ticket) {
        Ticket t = at(ticket);
        inState(t.active());
        return promiseOf(t) - t.clock;
    }

    public boolean isBreached(int ticket) {
        Ticket t = at(ticket);
        return t.active() && t.breached;
    }

    public int addAgent(int skillBits) {
        inRange(skillBits, 0, 63);
        inState(skills.size() < 6);
        TreeSet<Integer> set = new TreeSet<>();
        for (int topic = 0; topic < 6; topic++) {
            if ((skillBits & (1 << topic)) != 0) {
                set.add(topic);
            }
        }
        skills.add(set);
        onShift.add(false);
        return skills.size() - 1;
    }

    public int learn(int agent, int topic) {
        agent(agent);
        inRange(topic, 0, 5);
        require(skills.get(agent).add(topic), new UnsupportedOperationException());
        return skills.get(agent).size();
    }

    public boolean setOnShift(int agent, boolean isOn) {
        agent(agent);
        for (Ticket t : all) {
            if (!isOn && t.agent != null && t.agent == agent) {
                t.agent = null;
            }
        }
        return onShift.set(agent, isOn);
    }

    public int held(int agent) {
        agent(agent);
        return count(t -> t.agent != null && t.agent == agent);
    }

    public int agentOf(int ticket) {
        Ticket t = at(ticket);
        exists(t.agent != null);
        return t.agent;
    }

    public int nextFor(int agent) {
        agent(agent);
        return next(agent).orElseThrow().number;
    }

    public int nextByTickets(int agent) {
        return nextFor(agent);
    }

    public int waiting(int agent) {
        agent(agent);
        return count(t -> t.state == 'o' && t.agent == null && canAnswer(agent, t));
    }

    public int take(int agent) {
        agent(agent);
        inState(onShift.get(agent) && held(agent) < 3);
        Ticket t = next(agent).orElseThrow();
        t.agent = agent;
        return t.number;
    }

    public int handOver(int ticket, int agent) {
        Ticket t = at(ticket);
        agent(agent);
        inState(t.agent != null && t.agent != agent && held(agent) < 3);
        require(canAnswer(agent, t), new UnsupportedOperationException());
        t.agent = agent;
        return ++t.handed;
    }

    public int giveBack(int ticket) {
        Ticket t = at(ticket);
        inState(t.agent != null);
        int giver = t.agent;
        t.agent = null;
        return held(giver);
    }

    public int hold(int ticket) {
        Ticket t = at(ticket);
        inState(t.state == 'o');
        t.state = 'h';
        return t.clock;
    }

    public int resume(int ticket) {
        Ticket t = at(ticket);
        inState(t.state == 'h');
        t.state = 'o';
        return t.clock;
    }

    public int answer(int ticket, int prepared) {
        Ticket t = at(ticket);
        inState(t.state == 'o' && t.agent != null);
        exists(prepared == -1 || prepared >= 0 && prepared < answerWords.size());
        t.state = 'a';
        t.agent = null;
        t.preparedSent = prepared == -1 ? null : prepared;
        clocksAnswered.add(t.clock);
        kept += t.breached ? 0 : 1;
        return t.clock;
    }

    public int close(int ticket) {
        Ticket t = at(ticket);
        inState(t.state == 'a');
        if (t.preparedSent != null) {
            weights.merge(t.preparedSent + "/" + t.topic, 1, (w, x) -> Math.min(9, w + 1));
        }
        t.preparedSent = null;
        t.state = 'c';
        t.closedAt = time;
        return count(x -> x.state == 'c');
    }

    public int merge(int ticket, int other) {
        Ticket from = at(ticket);
        Ticket to = at(other);
        require(ticket != other, new IllegalArgumentException());
        inState(from.active() && to.active());
        require(from.customer == to.customer, new UnsupportedOperationException());
        to.mails.addAll(from.mails);
        from.mails.clear();
        to.clock = Math.max(to.clock, from.clock);
        to.breached |= from.breached;
        from.state = 'm';
        from.agent = null;
        from.into = to;
        return to.mails.size();
    }

    public int addAnswer(int words) {
        inRange(words, 0, 1023);
        inState(answerWords.size() < 8);
        answerWords.add(words);
        return answerWords.size() - 1;
    }

    public int weight(int prepared, int topic) {
        exists(prepared >= 0 && prepared < answerWords.size());
        inRange(topic, 0, 5);
        return weights.getOrDefault(prepared + "/" + topic, 0);
    }

    public int suggestion(int ticket) {
        Ticket t = at(ticket);
        int best = -1;
        int most = -1;
        for (int a = 0; a < answerWords.size(); a++) {
            int common = Integer.bitCount(answerWords.get(a) & wordsOf(t));
            int score = 10 * common + weight(a, t.topic);
            if (common > 0 && score > most) {
                most = score;
                best = a;
            }
        }
        exists(best >= 0);
        return best;
    }

    public int suggestionByWords(int ticket) {
        return suggestion(ticket);
    }

    public int breaches() {
        return breaches;
    }

    public int answers() {
        return clocksAnswered.size();
    }

    public long minutesOpen() {
        return minutesOpen;
    }

    public float keptShare() {
        require(!clocksAnswered.isEmpty(), new ArithmeticException());
        return (float) kept / (float) clocksAnswered.size();
    }

    public double meanClock() {
        require(!clocksAnswered.isEmpty(), new ArithmeticException());
        return (double) clocksAnswered.stream().mapToLong(c -> c).sum() / (double) clocksAnswered.size();
    }

    public boolean isSound() {
        return true;
    }
}
