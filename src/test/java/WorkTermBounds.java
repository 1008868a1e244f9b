/** The terms, sentence by sentence: agents, the next ticket, answers, merging and exceptions. */
final class WorkTermBounds extends Bounds {
    WorkTermBounds(Checks checks, Document document) {
        super(checks, document);
    }

    @Override
    void run() {
        terms();
        agents();
        tooManyTickets();
        next(TicketWeaver::nextFor);
        nextOfSeveral(TicketWeaver::nextFor);
        next(TicketWeaver::nextByTickets);
        nextOfSeveral(TicketWeaver::nextByTickets);
        answers();
        weightsChange();
        weightsStay();
        scores(TicketWeaver::suggestion);
        bestScore(TicketWeaver::suggestion);
        scores(TicketWeaver::suggestionByWords);
        bestScore(TicketWeaver::suggestionByWords);
        merging();
        mergingClocks();
        mergingAgents();
        exceptions();
    }

    private void agents() {
        sentence("At most 6 agents have the numbers 0, 1, 2 and so on.");
        test("0 to 5, and no 7th", () -> {
            TicketWeaver x = new TicketWeaver();
            for (int i = 0; i < 6; i++) {
                c.due(i, x.addAgent(0));
            }
            c.dueThrow(STATE, () -> x.addAgent(0));
            c.dueThrow(INDEX, () -> x.held(6));
            c.due(0, x.held(5));
        });
        sentence("An agent has skills, a number in which the bit k, from 0 to 5, is 1 if the agent has the skill for"
            + " the topic k, and is on shift or not, at first not.");
        test("each skill alone", () -> {
            TicketWeaver x = new TicketWeaver();
            for (int skill = 0; skill < 6; skill++) {
                x.addAgent(1 << skill);
                x.mail(0, skill, -1, skill, 0);
            }
            for (int agent = 0; agent < 6; agent++) {
                c.due(0, x.waiting(agent));
                c.due(false, x.setOnShift(agent, true));
                c.due(1, x.waiting(agent));
                c.due(agent, x.nextFor(agent));
                c.due(agent, x.nextByTickets(agent));
            }
        });
    }

    private void tooManyTickets() {
        sentence("An agent on shift can have at most 3 tickets that are open or held; an agent off shift has none.");
        test("3, held ones among them, and no 4th", () -> {
            TicketWeaver x = deskWith(1, 4);
            for (int i = 0; i < 3; i++) {
                x.hold(x.take(0));
            }
            c.due(3, x.held(0));
            c.dueThrow(STATE, () -> x.take(0));
        });
        test("an answered one makes room", () -> {
            TicketWeaver x = deskWith(1, 4);
            x.take(0);
            x.take(0);
            answerNext(x, -1);
            c.due(3, x.take(0));
        });
        test("a merged one makes room", () -> {
            TicketWeaver x = deskWith(1, 4);
            x.take(0);
            x.take(0);
            x.take(0);
            x.merge(0, 1);
            c.due(3, x.take(0));
        });
        test("none off shift", () -> {
            TicketWeaver x = deskWith(1, 1);
            x.take(0);
            x.setOnShift(0, false);
            c.due(0, x.held(0));
            c.dueThrow(NONE, () -> x.agentOf(0));
        });
        sentence("An agent can answer a ticket if the agent is on shift and has the skill for its topic.");
        test("both, one of both, none of both", () -> {
            TicketWeaver x = sixAgents();
            c.due(1, x.waiting(0));
            c.due(0, x.waiting(1));
            x.setOnShift(1, true);
            c.due(0, x.waiting(1));
            x.learn(1, 0);
            c.due(1, x.waiting(1));
            x.setOnShift(1, false);
            c.due(0, x.waiting(1));
        });
    }

    private void next(Ask next) {
        sentence("The tickets for an agent are those that are open, nobody's, and that the agent can answer.");
        test("open and nobody's", () -> c.due(0, next.of(deskWith(1, 1), 0)));
        test("an agent's is none", () -> {
            TicketWeaver x = deskWith(2, 1);
            x.take(1);
            none(x, next);
        });
        test("a held one is none", () -> {
            TicketWeaver x = deskWith(1, 1);
            x.hold(0);
            none(x, next);
        });
        test("an answered and a closed one are none", () -> {
            TicketWeaver x = deskWith(1, 1);
            answerNext(x, -1);
            none(x, next);
            x.close(0);
            none(x, next);
        });
        test("a merged one is none", () -> {
            TicketWeaver x = deskWith(1, 2);
            x.hold(1);
            x.merge(0, 1);
            none(x, next);
        });
        test("one that the agent cannot answer is none", () -> {
            TicketWeaver x = deskWith(1, 1);
            x.setOnShift(0, false);
            none(x, next);
        });
    }

    private void nextOfSeveral(Ask next) {
        sentence("The next one is that with the least left of its promise; of several, that of the customer with the"
            + " greater class; of several, the one with the lowest number.");
        test("one minute less, before the class and the number", () -> {
            TicketWeaver x = twoClasses(239, 240);
            c.due(0, next.of(x, 0));
            x.setPromise(0, 241);
            c.due(2, next.of(x, 0));
        });
        test("as little left: the greater class, before the number", () -> {
            TicketWeaver x = twoClasses(240, 240);
            c.due(2, next.of(x, 0));
        });
        test("a class that is set behind them, in one queue", () -> {
            TicketWeaver x = deskWith(1, 1);
            x.mail(1, 0, -1, 0, 0);
            x.setClass(1, 1);
            c.due(1, next.of(x, 0));
            x.setClass(0, 2);
            c.due(0, next.of(x, 0));
        });
        test("a promise that is set behind them, in one queue", () -> {
            TicketWeaver x = deskWith(1, 1);
            x.mail(1, 0, -1, 0, 0);
            x.setClass(1, 1);
            x.setPromise(0, 119);
            c.due(0, next.of(x, 0));
            x.setPromise(0, 121);
            c.due(1, next.of(x, 0));
        });
        test("as little left, of classes 1 and 2", () -> {
            TicketWeaver x = deskWith(1);
            x.mail(0, 0, -1, 0, 0);
            x.mail(1, 0, -1, 1, 0);
            x.setClass(0, 1);
            x.setClass(1, 2);
            x.setPromise(2, 120);
            c.due(1, next.of(x, 0));
        });
        test("as little left of the greater class, in one queue and in two", () -> {
            for (int topic = 0; topic < 2; topic++) {
                TicketWeaver x = deskWith(1);
                x.mail(0, 0, -1, topic, 0);
                x.mail(0, 1, -1, 0, 0);
                x.mail(0, 2, -1, 1, 0);
                c.due(0, next.of(x, 0));
                x.hold(0);
                c.due(1, next.of(x, 0));
            }
        });
        test("less than 0 before 0, and 0 before more", () -> {
            TicketWeaver x = deskWith(1, 1);
            x.pass(1);
            x.mail(0, 1, -1, 1, 0);
            x.pass(240);
            x.mail(0, 2, -1, 2, 0);
            c.due(0, next.of(x, 0));
            x.hold(0);
            c.due(1, next.of(x, 0));
            x.hold(1);
            c.due(2, next.of(x, 0));
        });
    }

    private void none(TicketWeaver x, Ask next) {
        c.dueThrow(NONE, () -> next.of(x, 0));
        c.due(0, x.waiting(0));
    }

    /** Tickets 0 and 1 of class 0, 2 and 3 of class 1, with these promises. */
    private static TicketWeaver twoClasses(int promiseOfFirst, int promiseOfSecond) {
        TicketWeaver x = deskWith(1, 2);
        x.mail(1, 0, -1, 0, 0);
        x.mail(1, 1, -1, 1, 0);
        x.setClass(1, 1);
        x.setPromise(0, promiseOfFirst);
        x.setPromise(1, promiseOfSecond);
        return x;
    }

    /** Answer 0 has the word 0, answer 1 has it, too, answer 2 has the words 0 and 1. */
    private static TicketWeaver deskWithAnswers() {
        TicketWeaver x = deskWith(1);
        x.addAnswer(1);
        x.addAnswer(1);
        x.addAnswer(3);
        return x;
    }

    /** A new ticket is answered with the prepared answer and closed so often. */
    private static void teach(TicketWeaver x, int prepared, int topic, int times) {
        int ticket = x.mail(7, 19, -1, topic, 0);
        x.setClass(7, 2);
        for (int i = 0; i < times; i++) {
            answerNext(x, prepared);
            x.close(ticket);
            x.mail(7, 19, -1, topic, 0);
        }
        x.hold(ticket);
    }

    private void answers() {
        sentence("At most 8 prepared answers have the numbers 0, 1, 2 and so on, and words like mails.");
        test("0 to 7, and no 9th", () -> {
            TicketWeaver x = new TicketWeaver();
            for (int i = 0; i < 8; i++) {
                c.due(i, x.addAnswer(1023));
            }
            c.dueThrow(STATE, () -> x.addAnswer(1023));
            c.dueThrow(NONE, () -> x.weight(8, 0));
            c.due(0, x.weight(7, 0));
        });
        sentence("For each answer and topic there is a weight from 0 to 9, 0 at first.");
        test("48 weights", () -> {
            TicketWeaver x = new TicketWeaver();
            for (int i = 0; i < 8; i++) {
                x.addAnswer(i);
                for (int topic = 0; topic < 6; topic++) {
                    c.due(0, x.weight(i, topic));
                }
            }
        });
    }

    private void weightsChange() {
        sentence("When a ticket that was answered with a prepared answer gets the next mail, the weight for this answer"
            + " and the topic of the ticket decreases by 1, if it is greater than 0; when it is closed instead, it"
            + " increases by 1, if it is less than 9.");
        test("0 stays 0", () -> {
            TicketWeaver x = deskWithAnswers();
            x.mail(0, 0, -1, 0, 0);
            answerNext(x, 0);
            x.mail(0, 0, -1, 0, 0);
            c.due(0, x.weight(0, 0));
        });
        test("1 becomes 0", () -> {
            TicketWeaver x = deskWithAnswers();
            teach(x, 0, 0, 1);
            c.due(1, x.weight(0, 0));
            x.mail(0, 0, -1, 0, 0);
            answerNext(x, 0);
            c.due(1, x.weight(0, 0));
            x.mail(0, 0, -1, 0, 0);
            c.due(0, x.weight(0, 0));
        });
        test("8 becomes 9, 9 stays 9, and then becomes 8", () -> {
            TicketWeaver x = deskWithAnswers();
            teach(x, 0, 0, 8);
            c.due(8, x.weight(0, 0));
            answerAndClose(x, 0);
            c.due(9, x.weight(0, 0));
            answerAndClose(x, 0);
            c.due(9, x.weight(0, 0));
            x.mail(0, 0, -1, 0, 0);
            answerNext(x, 0);
            x.mail(0, 0, -1, 0, 0);
            c.due(8, x.weight(0, 0));
        });
        test("the topic that it has, not the one that the mail has", () -> {
            TicketWeaver x = deskWithAnswers();
            teach(x, 1, 5, 2);
            x.mail(0, 0, -1, 0, 0);
            x.setTopic(x.take(0), 5);
            x.answer(1, 1);
            x.mail(0, 0, -1, 3, 0);
            c.due(1, x.weight(1, 5));
            c.due(0, x.weight(1, 3));
        });
        test("a mail that the answered ticket gets by its answered mail", () -> {
            TicketWeaver x = deskWithAnswers();
            teach(x, 2, 0, 2);
            int ticket = x.mail(0, 0, -1, 0, 0);
            answerNext(x, 2);
            c.due(ticket, x.mail(0, 9, x.mails() - 1, 0, 0));
            c.due(1, x.weight(2, 0));
        });
    }

    private static void answerAndClose(TicketWeaver x, int prepared) {
        int ticket = x.mail(0, 0, -1, 0, 0);
        answerNext(x, prepared);
        x.close(ticket);
    }

    private void weightsStay() {
        test("another text changes none", () -> {
            TicketWeaver x = deskWithAnswers();
            teach(x, 0, 0, 1);
            x.mail(0, 0, -1, 0, 0);
            answerNext(x, -1);
            x.mail(0, 0, -1, 0, 0);
            answerNext(x, -1);
            x.close(x.ticketOf(x.mails() - 1));
            c.due(1, x.weight(0, 0));
        });
        test("the second mail behind an answer changes none", () -> {
            TicketWeaver x = deskWithAnswers();
            teach(x, 0, 0, 2);
            x.mail(0, 0, -1, 0, 0);
            answerNext(x, 0);
            x.mail(0, 0, -1, 0, 0);
            x.mail(0, 0, -1, 0, 0);
            c.due(1, x.weight(0, 0));
        });
        test("a mail behind the closing changes none", () -> {
            TicketWeaver x = deskWithAnswers();
            teach(x, 0, 0, 2);
            c.due(2, x.weight(0, 0));
        });
        test("another text behind a prepared answer changes none", () -> {
            TicketWeaver x = deskWithAnswers();
            teach(x, 0, 0, 2);
            int ticket = x.mail(0, 0, -1, 0, 0);
            answerNext(x, 0);
            x.mail(0, 0, -1, 0, 0);
            answerNext(x, -1);
            x.close(ticket);
            c.due(1, x.weight(0, 0));
        });
    }

    private void scores(Ask suggestion) {
        sentence("The score of an answer for a ticket is 10 times the number of words that both have, plus its weight"
            + " for the topic of the ticket.");
        test("one word and a weight of 9 is less than two words", () -> {
            TicketWeaver x = deskWithAnswers();
            teach(x, 0, 0, 9);
            c.due(2, suggestion.of(x, x.mail(0, 0, -1, 0, 3)));
        });
        test("a weight of 1 decides among as many words", () -> {
            TicketWeaver x = deskWithAnswers();
            teach(x, 1, 0, 1);
            c.due(1, suggestion.of(x, x.mail(0, 0, -1, 0, 1)));
        });
        test("a weight for another topic counts nothing", () -> {
            TicketWeaver x = deskWithAnswers();
            teach(x, 1, 5, 9);
            c.due(0, suggestion.of(x, x.mail(0, 0, -1, 0, 1)));
            x.setTopic(1, 5);
            c.due(1, suggestion.of(x, 1));
        });
        test("10 words of 10 are more than 9 and a weight of 9", () -> {
            TicketWeaver x = deskWith(1);
            x.addAnswer(1022);
            x.addAnswer(1023);
            teach(x, 0, 0, 9);
            c.due(1, suggestion.of(x, x.mail(0, 0, -1, 0, 1023)));
        });
    }

    private void bestScore(Ask suggestion) {
        sentence("The suggestion is the answer with the greatest score among those that have a word in common with the"
            + " ticket; of several, the one with the lowest number.");
        test("the same score three times", () -> {
            TicketWeaver x = deskWithAnswers();
            c.due(0, suggestion.of(x, x.mail(0, 0, -1, 0, 1)));
        });
        test("the same score of the last two of 8", () -> {
            TicketWeaver x = new TicketWeaver();
            for (int i = 0; i < 8; i++) {
                x.addAnswer(i < 6 ? 0 : 512);
            }
            c.due(6, suggestion.of(x, x.mail(0, 0, -1, 0, 1023)));
        });
        test("one word without a weight before a weight of 9 without a word", () -> {
            TicketWeaver x = deskWithAnswers();
            x.addAnswer(512);
            teach(x, 0, 0, 9);
            c.due(3, suggestion.of(x, x.mail(0, 0, -1, 0, 512)));
        });
    }

    private void merging() {
        sentence("When a ticket is merged into another one of the same customer, its mails become mails of the other"
            + " one, in the order of their numbers among those that are there, the other one's clock becomes the"
            + " greater one of both, it counts as breached if one of both did, without being counted once more, and"
            + " the ticket is nobody's.");
        test("the mails of 0 and 1 in turn, and of 2 behind them", () -> {
            TicketWeaver x = new TicketWeaver();
            for (int i = 0; i < 12; i++) {
                x.mail(0, i < 10 ? i % 2 : 2, -1, 0, 0);
            }
            x.merge(2, 0);
            x.merge(0, 1);
            for (int i = 0; i < 12; i++) {
                c.due(i, x.mailAt(1, i));
            }
        });
        test("the words go along, and leave the merged one", () -> {
            TicketWeaver x = new TicketWeaver();
            x.addAnswer(3);
            x.mail(0, 0, -1, 0, 2);
            x.mail(0, 1, -1, 0, 0);
            x.merge(0, 1);
            c.due(0, x.suggestion(1));
            c.due(0, x.suggestionByWords(1));
            c.dueThrow(NONE, () -> x.suggestion(0));
            c.dueThrow(NONE, () -> x.suggestionByWords(0));
        });
    }

    private void mergingClocks() {
        test("the clock of the merged one is greater", () -> c.due(9, clockBehindMerging(0, 1)));
        test("the clock of the other one is greater", () -> c.due(9, clockBehindMerging(1, 0)));
        test("the clocks are the same", () -> {
            TicketWeaver x = deskWith(0, 2);
            x.pass(9);
            x.merge(0, 1);
            c.due(9, x.clock(1));
        });
        test("the merged one is breached, the other one is, both are", () -> {
            for (int held = 0; held < 3; held++) {
                TicketWeaver x = deskWith(0, 2);
                if (held < 2) {
                    x.hold(held);
                }
                x.pass(241);
                int before = x.breaches();
                x.merge(0, 1);
                c.due(true, x.isBreached(1));
                c.due(before, x.breaches());
            }
        });
        test("none is breached, though the greater clock is over the promise", () -> {
            TicketWeaver x = deskWith(0, 2);
            x.pass(9);
            x.setPromise(0, 1);
            x.merge(0, 1);
            c.due(false, x.isBreached(1));
            c.due(1, x.pass(1));
        });
    }

    private void mergingAgents() {
        test("the merged one is nobody's, the other one stays its agent's, and with its state and topic", () -> {
            TicketWeaver x = sixAgents();
            x.take(0);
            x.hold(1);
            x.merge(0, 1);
            c.dueThrow(NONE, () -> x.agentOf(0));
            c.due(0, x.held(0));
            c.due(5, x.agentOf(1));
            c.due('h', x.stateOf(1));
            c.due(5, x.setTopic(1, 5));
        });
        test("its agent does not get the other one", () -> {
            TicketWeaver x = deskWith(1, 2);
            x.take(0);
            x.merge(0, 1);
            c.dueThrow(NONE, () -> x.agentOf(1));
            c.due(1, x.nextFor(0));
        });
    }

    /** What the clock is then: ticket 0 was open for 9 minutes, ticket 1 for none. */
    private static int clockBehindMerging(int ticket, int other) {
        TicketWeaver x = deskWith(0, 2);
        x.hold(1);
        x.pass(9);
        x.merge(ticket, other);
        return x.clock(other);
    }

    private void exceptions() {
        sentence("A method that throws an exception changes nothing.");
        test("many refused calls, one behind the other", () -> {
            TicketWeaver x = busyDesk();
            for (int i = 0; i < 10; i++) {
                int ticket = i;
                c.dueThrow(ARGUMENT, () -> x.merge(ticket, ticket));
                c.dueThrow(INDEX, () -> x.handOver(ticket, 5));
                c.dueThrow(ARGUMENT, () -> x.setTopic(ticket, 6));
                c.dueThrow(NONE, () -> x.mail(0, ticket, 10, 0, 8));
            }
            sameLife(busyDesk(), x);
        });
        sentence("If several exceptions apply, the one that is listed first is thrown.");
        refused("three of mail", ARGUMENT, () -> deskWith(0, 40), x -> x.mail(0, 20, 40, 0, 1));
        refused("three of setTopic", INDEX, x -> x.setTopic(10, 6));
        refused("three of handOver", INDEX, x -> x.handOver(8, 5));
        refused("two of handOver", STATE, x -> x.handOver(8, 2));
        refused("three of answer", INDEX, x -> x.answer(-1, -2));
        refused("two of answer", STATE, x -> x.answer(3, 2));
        refused("four of merge", INDEX, x -> x.merge(10, 10));
        refused("three of merge", STATE, x -> x.merge(3, 9));
        refused("two of weight", NONE, x -> x.weight(-1, -1));
        refused("two of addAgent", ARGUMENT, Bounds::sixAgents, x -> x.addAgent(LOW));
    }
}
