import java.util.ArrayList;
import java.util.Arrays;
import java.util.NoSuchElementException;

/**
 * A support desk: mails are joined to tickets, tickets have clocks that stop, agents take the ticket whose promise
 * breaks first, and prepared answers learn from what customers write.
 */
public final class TicketWeaver {
    private static final int CUSTOMERS = 8;
    private static final int CLASSES = 3;
    private static final int SUBJECTS = 20;
    private static final int TOPICS = 6;
    private static final int WORDS = 10;
    private static final int MOST_MAILS = 80;
    private static final int MOST_TICKETS = 40;
    private static final int MOST_AGENTS = 6;
    private static final int MOST_ANSWERS = 8;
    private static final int MOST_HELD = 3;
    private static final int MOST_WEIGHT = 9;
    private static final int MOST_MINUTES = 600;
    private static final int LONGEST_PROMISE = 9999;
    private static final int REOPENING_MINUTES = 1440;
    private static final int POINTS_OF_A_WORD = 10;
    private static final int NONE = -1;

    private static final char OPEN = 'o';
    private static final char HELD = 'h';
    private static final char ANSWERED = 'a';
    private static final char CLOSED = 'c';
    private static final char MERGED = 'm';

    private final int[] promises;
    private final Customer[] customers;
    private final TopicQueue[] queues;
    private final ArrayList<Mail> mails;
    private final ArrayList<Ticket> tickets;
    private final ArrayList<Agent> agents;
    private final ArrayList<Prepared> preparedAnswers;
    private final int[] answersWithWord;
    private final int[] scores;
    private int time;
    private int breaches;
    private int answers;
    private int keptAnswers;
    private long clocksOfAnswers;
    private long minutesOpen;

    public TicketWeaver() {
        promises = new int[] {240, 120, 30};
        customers = new Customer[CUSTOMERS];
        for (int i = 0; i < CUSTOMERS; i++) {
            customers[i] = new Customer(promises);
        }
        queues = new TopicQueue[TOPICS];
        for (int i = 0; i < TOPICS; i++) {
            queues[i] = new TopicQueue();
        }
        mails = new ArrayList<Mail>();
        tickets = new ArrayList<Ticket>();
        agents = new ArrayList<Agent>();
        preparedAnswers = new ArrayList<Prepared>();
        answersWithWord = new int[WORDS];
        scores = new int[MOST_ANSWERS];
    }

    // ---- Time, customers and promises

    public int pass(int minutes) throws IllegalArgumentException {
        if (!isWithin(minutes, 1, MOST_MINUTES)) {
            throw new IllegalArgumentException("the minutes are out of range");
        }
        int broken = 0;
        // No promise changes while the minutes pass, so one step of a clock breaks what single minutes would.
        for (int i = 0; i < tickets.size(); i++) {
            Ticket ticket = tickets.get(i);
            if (ticket.state == OPEN) {
                minutesOpen += minutes;
                if (ticket.countMinutes(minutes)) {
                    broken++;
                }
            }
        }
        time += minutes;
        breaches += broken;
        return broken;
    }

    public int time() {
        return time;
    }

    public int setClass(int customer, int level) throws IllegalArgumentException {
        if (!isWithin(customer, 0, CUSTOMERS - 1) || !isWithin(level, 0, CLASSES - 1)) {
            throw new IllegalArgumentException("no such customer or class");
        }
        int before = customers[customer].level;
        customers[customer].level = level;
        orderQueuesAnew();
        return before;
    }

    public int setPromise(int level, int minutes) throws IllegalArgumentException {
        if (!isWithin(level, 0, CLASSES - 1) || !isWithin(minutes, 1, LONGEST_PROMISE)) {
            throw new IllegalArgumentException("no such class, or the promise is out of range");
        }
        int before = promises[level];
        promises[level] = minutes;
        orderQueuesAnew();
        return before;
    }

    // ---- Mails

    public int mail(int customer, int subject, int answered, int topic, int words)
            throws IllegalArgumentException, NoSuchElementException, IllegalStateException {
        if (!isWithin(customer, 0, CUSTOMERS - 1) || !isWithin(subject, 0, SUBJECTS - 1)
                || !isTopic(topic) || !areWords(words)) {
            throw new IllegalArgumentException("a number is out of range");
        }
        if (answered != NONE && !isWithin(answered, 0, mails.size() - 1)) {
            throw new NoSuchElementException("no such mail to answer");
        }
        Customer writer = customers[customer];
        Ticket ticket = ticketToJoin(writer, subject, answered);
        if (mails.size() >= MOST_MAILS || ticket == null && tickets.size() >= MOST_TICKETS) {
            throw new IllegalStateException("there is no room for the mail or its ticket");
        }
        if (ticket == null) {
            ticket = new Ticket(tickets.size(), writer, subject, topic);
            tickets.add(ticket);
        }
        leaveQueue(ticket);
        addMail(ticket, words);
        joinQueue(ticket);
        return ticket.number;
    }

    public int ticketOf(int mail) throws NoSuchElementException {
        if (!isWithin(mail, 0, mails.size() - 1)) {
            throw new NoSuchElementException("no such mail");
        }
        return mails.get(mail).ticket.number;
    }

    public int mails() {
        return mails.size();
    }

    public int mailsOf(int ticket) throws IndexOutOfBoundsException {
        return ticketNumbered(ticket).mails.size();
    }

    public int mailAt(int ticket, int index) throws IndexOutOfBoundsException, NoSuchElementException {
        Ticket wanted = ticketNumbered(ticket);
        if (!isWithin(index, 0, wanted.mails.size() - 1)) {
            throw new NoSuchElementException("the ticket has no such mail");
        }
        return wanted.mails.get(index).number;
    }

    // ---- Tickets

    public int tickets() {
        return tickets.size();
    }

    public char stateOf(int ticket) throws IndexOutOfBoundsException {
        return ticketNumbered(ticket).state;
    }

    public int mergedInto(int ticket) throws IndexOutOfBoundsException, NoSuchElementException {
        Ticket home = ticketNumbered(ticket);
        if (home.into == null) {
            throw new NoSuchElementException("the ticket is not merged");
        }
        while (home.into != null) {
            home = home.into;
        }
        return home.number;
    }

    public int setTopic(int ticket, int topic)
            throws IndexOutOfBoundsException, IllegalArgumentException, IllegalStateException {
        Ticket wanted = ticketNumbered(ticket);
        if (!isTopic(topic)) {
            throw new IllegalArgumentException("no such topic");
        }
        requireOpenOrHeld(wanted);
        int before = wanted.topic;
        leaveQueue(wanted);
        wanted.topic = topic;
        if (wanted.agent != null && !wanted.agent.hasSkill(topic)) {
            wanted.leaveAgent();
        }
        joinQueue(wanted);
        return before;
    }

    public int clock(int ticket) throws IndexOutOfBoundsException, IllegalStateException {
        Ticket wanted = ticketNumbered(ticket);
        requireOpenOrHeld(wanted);
        return wanted.clock;
    }

    public int leftOf(int ticket) throws IndexOutOfBoundsException, IllegalStateException {
        Ticket wanted = ticketNumbered(ticket);
        requireOpenOrHeld(wanted);
        return wanted.minutesLeft();
    }

    public boolean isBreached(int ticket) throws IndexOutOfBoundsException {
        Ticket wanted = ticketNumbered(ticket);
        return wanted.isOpenOrHeld() && wanted.isBroken;
    }

    // ---- Agents

    public int addAgent(int skills) throws IllegalArgumentException, IllegalStateException {
        if (!isWithin(skills, 0, (1 << TOPICS) - 1)) {
            throw new IllegalArgumentException("the skills are out of range");
        }
        if (agents.size() >= MOST_AGENTS) {
            throw new IllegalStateException("there is no room for another agent");
        }
        agents.add(new Agent(agents.size(), skills));
        return agents.size() - 1;
    }

    public int learn(int agent, int topic)
            throws IndexOutOfBoundsException, IllegalArgumentException, UnsupportedOperationException {
        Agent learner = agentNumbered(agent);
        if (!isTopic(topic)) {
            throw new IllegalArgumentException("no such topic");
        }
        if (learner.hasSkill(topic)) {
            throw new UnsupportedOperationException("the agent has the skill");
        }
        learner.skills |= 1 << topic;
        return Integer.bitCount(learner.skills);
    }

    public boolean setOnShift(int agent, boolean isOn) throws IndexOutOfBoundsException {
        Agent worker = agentNumbered(agent);
        boolean before = worker.isOnShift;
        worker.isOnShift = isOn;
        if (!isOn) {
            giveAllBack(worker);
        }
        return before;
    }

    public int held(int agent) throws IndexOutOfBoundsException {
        return agentNumbered(agent).ticketCount;
    }

    public int agentOf(int ticket) throws IndexOutOfBoundsException, NoSuchElementException {
        Agent owner = ticketNumbered(ticket).agent;
        if (owner == null) {
            throw new NoSuchElementException("the ticket is nobody's");
        }
        return owner.number;
    }

    // ---- The next ticket

    public int nextFor(int agent) throws IndexOutOfBoundsException, NoSuchElementException {
        Ticket next = nextFromQueues(agentNumbered(agent));
        if (next == null) {
            throw new NoSuchElementException("there is no ticket for the agent");
        }
        return next.number;
    }

    public int nextByTickets(int agent) throws IndexOutOfBoundsException, NoSuchElementException {
        Ticket next = nextFromTickets(agentNumbered(agent));
        if (next == null) {
            throw new NoSuchElementException("there is no ticket for the agent");
        }
        return next.number;
    }

    public int waiting(int agent) throws IndexOutOfBoundsException {
        Agent worker = agentNumbered(agent);
        int count = 0;
        for (int topic = 0; topic < TOPICS; topic++) {
            if (worker.canAnswer(topic)) {
                count += queues[topic].length();
            }
        }
        return count;
    }

    public int take(int agent) throws IndexOutOfBoundsException, IllegalStateException, NoSuchElementException {
        Agent taker = agentNumbered(agent);
        if (!taker.isOnShift || taker.ticketCount >= MOST_HELD) {
            throw new IllegalStateException("the agent is off shift, or has 3 tickets");
        }
        Ticket next = nextFromQueues(taker);
        if (next == null) {
            throw new NoSuchElementException("there is no ticket for the agent");
        }
        leaveQueue(next);
        next.joinAgent(taker);
        return next.number;
    }

    public int handOver(int ticket, int agent)
            throws IndexOutOfBoundsException, IllegalStateException, UnsupportedOperationException {
        Ticket wanted = ticketNumbered(ticket);
        Agent taker = agentNumbered(agent);
        if (wanted.agent == null || wanted.agent == taker || taker.ticketCount >= MOST_HELD) {
            throw new IllegalStateException("the ticket is nobody's, or this agent has it, or has 3 tickets");
        }
        if (!taker.canAnswer(wanted.topic)) {
            throw new UnsupportedOperationException("the agent cannot answer the ticket");
        }
        wanted.leaveAgent();
        wanted.joinAgent(taker);
        wanted.timesHandedOver++;
        return wanted.timesHandedOver;
    }

    public int giveBack(int ticket) throws IndexOutOfBoundsException, IllegalStateException {
        Ticket wanted = ticketNumbered(ticket);
        Agent giver = wanted.agent;
        if (giver == null) {
            throw new IllegalStateException("the ticket is nobody's");
        }
        wanted.leaveAgent();
        joinQueue(wanted);
        return giver.ticketCount;
    }

    // ---- What agents do with a ticket

    public int hold(int ticket) throws IndexOutOfBoundsException, IllegalStateException {
        Ticket wanted = ticketNumbered(ticket);
        if (wanted.state != OPEN) {
            throw new IllegalStateException("the ticket is not open");
        }
        leaveQueue(wanted);
        wanted.state = HELD;
        return wanted.clock;
    }

    public int resume(int ticket) throws IndexOutOfBoundsException, IllegalStateException {
        Ticket wanted = ticketNumbered(ticket);
        if (wanted.state != HELD) {
            throw new IllegalStateException("the ticket is not held");
        }
        wanted.state = OPEN;
        joinQueue(wanted);
        return wanted.clock;
    }

    public int answer(int ticket, int prepared)
            throws IndexOutOfBoundsException, IllegalStateException, NoSuchElementException {
        Ticket wanted = ticketNumbered(ticket);
        if (wanted.state != OPEN || wanted.agent == null) {
            throw new IllegalStateException("the ticket is not open, or it is nobody's");
        }
        if (prepared != NONE && !isAnswer(prepared)) {
            throw new NoSuchElementException("no such prepared answer");
        }
        wanted.leaveAgent();
        wanted.state = ANSWERED;
        wanted.sent = prepared == NONE ? null : preparedAnswers.get(prepared);
        countAnswer(wanted);
        return wanted.clock;
    }

    public int close(int ticket) throws IndexOutOfBoundsException, IllegalStateException {
        Ticket wanted = ticketNumbered(ticket);
        if (wanted.state != ANSWERED) {
            throw new IllegalStateException("the ticket is not answered");
        }
        if (wanted.sent != null) {
            wanted.sent.gainWeight(wanted.topic);
        }
        wanted.sent = null;
        wanted.state = CLOSED;
        wanted.closedAt = time;
        return closedTickets();
    }

    public int merge(int ticket, int other)
            throws IndexOutOfBoundsException, IllegalArgumentException, IllegalStateException,
            UnsupportedOperationException {
        Ticket source = ticketNumbered(ticket);
        Ticket target = ticketNumbered(other);
        if (source == target) {
            throw new IllegalArgumentException("both tickets are the same");
        }
        requireOpenOrHeld(source);
        requireOpenOrHeld(target);
        if (source.customer != target.customer) {
            throw new UnsupportedOperationException("the tickets are of different customers");
        }
        leaveQueue(source);
        // The target's clock may become another one, and with it its place in the queue.
        leaveQueue(target);
        source.leaveAgent();
        target.takeOver(source);
        joinQueue(target);
        return target.mails.size();
    }

    // ---- Prepared answers

    public int addAnswer(int words) throws IllegalArgumentException, IllegalStateException {
        if (!areWords(words)) {
            throw new IllegalArgumentException("the words are out of range");
        }
        if (preparedAnswers.size() >= MOST_ANSWERS) {
            throw new IllegalStateException("there is no room for another answer");
        }
        int number = preparedAnswers.size();
        preparedAnswers.add(new Prepared(words));
        for (int word = 0; word < WORDS; word++) {
            if ((words >> word & 1) == 1) {
                answersWithWord[word] |= 1 << number;
            }
        }
        return number;
    }

    public int weight(int prepared, int topic) throws NoSuchElementException, IllegalArgumentException {
        if (!isAnswer(prepared)) {
            throw new NoSuchElementException("no such prepared answer");
        }
        if (!isTopic(topic)) {
            throw new IllegalArgumentException("no such topic");
        }
        return preparedAnswers.get(prepared).weights[topic];
    }

    public int suggestion(int ticket) throws IndexOutOfBoundsException, NoSuchElementException {
        int best = bestFromAnswers(ticketNumbered(ticket));
        if (best == NONE) {
            throw new NoSuchElementException("no answer has a word in common with the ticket");
        }
        return best;
    }

    public int suggestionByWords(int ticket) throws IndexOutOfBoundsException, NoSuchElementException {
        int best = bestFromWords(ticketNumbered(ticket));
        if (best == NONE) {
            throw new NoSuchElementException("no answer has a word in common with the ticket");
        }
        return best;
    }

    // ---- What was counted

    public int breaches() {
        return breaches;
    }

    public int answers() {
        return answers;
    }

    public long minutesOpen() {
        return minutesOpen;
    }

    public float keptShare() throws ArithmeticException {
        if (answers == 0) {
            throw new ArithmeticException("no ticket was answered");
        }
        return (float) keptAnswers / (float) answers;
    }

    public double meanClock() throws ArithmeticException {
        if (answers == 0) {
            throw new ArithmeticException("no ticket was answered");
        }
        return (double) clocksOfAnswers / (double) answers;
    }

    public boolean isSound() {
        return hasEachMailOnce() && agreesOnNextTickets();
    }

    // ---- Ranges

    private static boolean isWithin(int number, int least, int greatest) {
        return number >= least && number <= greatest;
    }

    private static boolean isTopic(int topic) {
        return isWithin(topic, 0, TOPICS - 1);
    }

    private static boolean areWords(int words) {
        return isWithin(words, 0, (1 << WORDS) - 1);
    }

    private boolean isAnswer(int number) {
        return isWithin(number, 0, preparedAnswers.size() - 1);
    }

    private Ticket ticketNumbered(int number) throws IndexOutOfBoundsException {
        if (!isWithin(number, 0, tickets.size() - 1)) {
            throw new IndexOutOfBoundsException("no such ticket");
        }
        return tickets.get(number);
    }

    private Agent agentNumbered(int number) throws IndexOutOfBoundsException {
        if (!isWithin(number, 0, agents.size() - 1)) {
            throw new IndexOutOfBoundsException("no such agent");
        }
        return agents.get(number);
    }

    private static void requireOpenOrHeld(Ticket ticket) throws IllegalStateException {
        if (!ticket.isOpenOrHeld()) {
            throw new IllegalStateException("the ticket is neither open nor held");
        }
    }

    // ---- Joining

    private Ticket ticketToJoin(Customer writer, int subject, int answered) {
        if (isWithin(answered, 0, mails.size() - 1)) {
            Ticket ofAnswered = mails.get(answered).ticket;
            if (ofAnswered.customer == writer && ofAnswered.canBeJoined(time)) {
                return ofAnswered;
            }
        }
        return latestWithSubject(writer, subject);
    }

    private Ticket latestWithSubject(Customer writer, int subject) {
        Ticket latest = null;
        for (int i = 0; i < tickets.size(); i++) {
            Ticket ticket = tickets.get(i);
            boolean isAlike = ticket.customer == writer && ticket.subject == subject && ticket.canBeJoined(time);
            if (isAlike && (latest == null || ticket.lastMail() > latest.lastMail())) {
                latest = ticket;
            }
        }
        return latest;
    }

    private void addMail(Ticket ticket, int words) {
        Mail mail = new Mail(mails.size(), ticket);
        mails.add(mail);
        ticket.insertMail(mail);
        ticket.words |= words;
        if (ticket.state == ANSWERED || ticket.state == CLOSED) {
            ticket.beginAnew();
        }
    }

    // ---- Queues: a ticket stands in the queue of its topic as long as it is open and nobody's

    private void leaveQueue(Ticket ticket) {
        queues[ticket.topic].remove(ticket);
    }

    private void joinQueue(Ticket ticket) {
        if (ticket.isWaiting()) {
            queues[ticket.topic].add(ticket);
        }
    }

    private void giveAllBack(Agent agent) {
        for (int i = 0; i < tickets.size(); i++) {
            Ticket ticket = tickets.get(i);
            if (ticket.agent == agent) {
                ticket.leaveAgent();
                joinQueue(ticket);
            }
        }
    }

    private void orderQueuesAnew() {
        for (int topic = 0; topic < TOPICS; topic++) {
            queues[topic].orderAnew();
        }
    }

    private Ticket nextFromQueues(Agent agent) {
        Ticket next = null;
        for (int topic = 0; topic < TOPICS; topic++) {
            if (agent.canAnswer(topic)) {
                next = earlierOf(next, queues[topic].head());
            }
        }
        return next;
    }

    private Ticket nextFromTickets(Agent agent) {
        Ticket next = null;
        for (int i = 0; i < tickets.size(); i++) {
            Ticket ticket = tickets.get(i);
            if (ticket.isWaiting() && agent.canAnswer(ticket.topic)) {
                next = earlierOf(next, ticket);
            }
        }
        return next;
    }

    /** Either one may be null: the other one is the answer then. */
    private static Ticket earlierOf(Ticket one, Ticket two) {
        if (one == null) {
            return two;
        }
        if (two == null) {
            return one;
        }
        return two.isBefore(one) ? two : one;
    }

    // ---- Suggestions

    private int bestFromAnswers(Ticket ticket) {
        int best = NONE;
        int bestScore = 0;
        for (int i = 0; i < preparedAnswers.size(); i++) {
            Prepared candidate = preparedAnswers.get(i);
            int common = Integer.bitCount(candidate.words & ticket.words);
            int score = POINTS_OF_A_WORD * common + candidate.weights[ticket.topic];
            if (common > 0 && score > bestScore) {
                best = i;
                bestScore = score;
            }
        }
        return best;
    }

    private int bestFromWords(Ticket ticket) {
        scoreWords(ticket.words);
        int best = NONE;
        int bestScore = 0;
        for (int i = 0; i < preparedAnswers.size() && i < scores.length; i++) {
            int score = scores[i] + preparedAnswers.get(i).weights[ticket.topic];
            if (scores[i] > 0 && score > bestScore) {
                best = i;
                bestScore = score;
            }
        }
        return best;
    }

    private void scoreWords(int words) {
        Arrays.fill(scores, 0);
        for (int word = 0; word < WORDS; word++) {
            if ((words >> word & 1) == 1) {
                scoreWord(word);
            }
        }
    }

    private void scoreWord(int word) {
        for (int i = 0; i < scores.length; i++) {
            if ((answersWithWord[word] >> i & 1) == 1) {
                scores[i] += POINTS_OF_A_WORD;
            }
        }
    }

    // ---- Counting

    private void countAnswer(Ticket ticket) {
        answers++;
        clocksOfAnswers += ticket.clock;
        if (!ticket.isBroken) {
            keptAnswers++;
        }
    }

    private int closedTickets() {
        int count = 0;
        for (int i = 0; i < tickets.size(); i++) {
            if (tickets.get(i).state == CLOSED) {
                count++;
            }
        }
        return count;
    }

    // ---- Soundness

    private boolean hasEachMailOnce() {
        int found = 0;
        for (int i = 0; i < tickets.size(); i++) {
            Ticket ticket = tickets.get(i);
            if (ticket.state != MERGED) {
                if (!ticket.ownsItsMails()) {
                    return false;
                }
                found += ticket.mails.size();
            }
        }
        return found == mails.size();
    }

    private boolean agreesOnNextTickets() {
        for (int i = 0; i < agents.size(); i++) {
            if (nextFromQueues(agents.get(i)) != nextFromTickets(agents.get(i))) {
                return false;
            }
        }
        return true;
    }

    /** A customer, with the promises that the desk keeps for all of them. */
    private static final class Customer {
        private final int[] promises;
        private int level;

        Customer(int[] promises) {
            this.promises = promises;
        }
    }

    /** A mail, and the ticket that has it now. */
    private static final class Mail {
        private final int number;
        private Ticket ticket;

        Mail(int number, Ticket ticket) {
            this.number = number;
            this.ticket = ticket;
        }
    }

    /** An agent; the tickets know who has them. */
    private static final class Agent {
        private final int number;
        private int skills;
        private boolean isOnShift;
        private int ticketCount;

        Agent(int number, int skills) {
            this.number = number;
            this.skills = skills;
        }

        boolean hasSkill(int topic) {
            return (skills >> topic & 1) == 1;
        }

        boolean canAnswer(int topic) {
            return isOnShift && hasSkill(topic);
        }
    }

    /** A prepared answer, with a weight for each topic. */
    private static final class Prepared {
        private final int words;
        private final int[] weights;

        Prepared(int words) {
            this.words = words;
            this.weights = new int[TOPICS];
        }

        void gainWeight(int topic) {
            weights[topic] = Math.min(weights[topic] + 1, MOST_WEIGHT);
        }

        void loseWeight(int topic) {
            weights[topic] = Math.max(weights[topic] - 1, 0);
        }
    }

    /** A ticket: its mails in the order of their numbers, its clock, and who has it. */
    private static final class Ticket {
        private final int number;
        private final Customer customer;
        private final int subject;
        private final ArrayList<Mail> mails;
        private int topic;
        private int words;
        private char state;
        private int clock;
        private boolean isBroken;
        private Agent agent;
        private int timesHandedOver;
        /** The prepared answer of which is not known yet whether it helped. */
        private Prepared sent;
        private int closedAt;
        private Ticket into;

        Ticket(int number, Customer customer, int subject, int topic) {
            this.number = number;
            this.customer = customer;
            this.subject = subject;
            this.topic = topic;
            this.mails = new ArrayList<Mail>();
            this.state = OPEN;
        }

        boolean isOpenOrHeld() {
            return state == OPEN || state == HELD;
        }

        boolean isWaiting() {
            return state == OPEN && agent == null;
        }

        boolean canBeJoined(int now) {
            if (state == CLOSED) {
                return now - closedAt <= REOPENING_MINUTES;
            }
            return state != MERGED;
        }

        int minutesLeft() {
            return customer.promises[customer.level] - clock;
        }

        boolean isBefore(Ticket other) {
            if (minutesLeft() != other.minutesLeft()) {
                return minutesLeft() < other.minutesLeft();
            }
            if (customer.level != other.customer.level) {
                return customer.level > other.customer.level;
            }
            return number < other.number;
        }

        /** Answers whether the promise is broken now and was not before. */
        boolean countMinutes(int minutes) {
            clock += minutes;
            if (isBroken || minutesLeft() >= 0) {
                return false;
            }
            isBroken = true;
            return true;
        }

        void beginAnew() {
            if (sent != null) {
                sent.loseWeight(topic);
            }
            sent = null;
            state = OPEN;
            clock = 0;
            isBroken = false;
        }

        void joinAgent(Agent taker) {
            agent = taker;
            taker.ticketCount++;
        }

        void leaveAgent() {
            if (agent != null) {
                agent.ticketCount--;
            }
            agent = null;
        }

        void insertMail(Mail mail) {
            int place = mails.size();
            while (place > 0 && mails.get(place - 1).number > mail.number) {
                place--;
            }
            mails.add(place, mail);
            mail.ticket = this;
        }

        int lastMail() {
            return mails.isEmpty() ? NONE : mails.get(mails.size() - 1).number;
        }

        void takeOver(Ticket source) {
            for (int i = 0; i < source.mails.size(); i++) {
                insertMail(source.mails.get(i));
            }
            words |= source.words;
            clock = Math.max(clock, source.clock);
            isBroken = isBroken || source.isBroken;
            source.mails.clear();
            source.words = 0;
            source.state = MERGED;
            source.into = this;
        }

        /** Rising numbers leave no room for a mail that stands here twice. */
        boolean ownsItsMails() {
            for (int i = 0; i < mails.size(); i++) {
                boolean isRising = i == 0 || mails.get(i - 1).number < mails.get(i).number;
                if (!isRising || mails.get(i).ticket != this) {
                    return false;
                }
            }
            return true;
        }
    }

    /**
     * The waiting tickets of one topic, the one whose promise breaks first at the head. The clocks of all of them run,
     * so their order changes with a class or a promise, but not with the time.
     */
    private static final class TopicQueue {
        private final ArrayList<Ticket> line;

        TopicQueue() {
            line = new ArrayList<Ticket>();
        }

        int length() {
            return line.size();
        }

        /** Null if nothing waits. */
        Ticket head() {
            return line.isEmpty() ? null : line.get(0);
        }

        void add(Ticket ticket) {
            insertBelow(line.size(), ticket);
        }

        void remove(Ticket ticket) {
            for (int i = 0; i < line.size(); i++) {
                if (line.get(i) == ticket) {
                    line.remove(i);
                    return;
                }
            }
        }

        void orderAnew() {
            for (int i = 1; i < line.size(); i++) {
                insertBelow(i, line.remove(i));
            }
        }

        private void insertBelow(int end, Ticket ticket) {
            int place = end;
            while (place > 0 && ticket.isBefore(line.get(place - 1))) {
                place--;
            }
            line.add(place, ticket);
        }
    }
}
