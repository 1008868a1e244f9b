/** Promises 34 to 37: prepared answers, their weights, and what is suggested. */
final class AnswerBounds extends Bounds {
    AnswerBounds(Checks checks, Document document) {
        super(checks, document);
    }

    @Override
    void run() {
        addAnswer();
        weight();
        weightRefused();
        promise(36);
        sentence("Returns the suggestion for a ticket, found answer by answer.");
        suggestion(TicketWeaver::suggestion);
        promise(37);
        sentence("Returns the same answer, found word by word.");
        suggestion(TicketWeaver::suggestionByWords);
    }

    private static TicketWeaver deskWithEightAnswers() {
        TicketWeaver x = new TicketWeaver();
        for (int i = 0; i < 8; i++) {
            x.addAnswer(1 << i);
        }
        return x;
    }

    private void addAnswer() {
        promise(34);
        sentence("Adds a prepared answer.");
        test("without a weight for any topic", () -> {
            TicketWeaver x = new TicketWeaver();
            x.addAnswer(1023);
            for (int topic = 0; topic < 6; topic++) {
                c.due(0, x.weight(0, topic));
            }
        });
        sentence("`words`: the words, 0 to 1023");
        test("0: none, so that it is never suggested", () -> {
            TicketWeaver x = new TicketWeaver();
            x.addAnswer(0);
            x.mail(0, 0, -1, 0, 1023);
            c.dueThrow(NONE, () -> x.suggestion(0));
            c.dueThrow(NONE, () -> x.suggestionByWords(0));
        });
        test("1023: all", () -> {
            TicketWeaver x = new TicketWeaver();
            x.addAnswer(1023);
            for (int word = 0; word < 10; word++) {
                x.mail(0, word, -1, 0, 1 << word);
                c.due(0, x.suggestion(word));
                c.due(0, x.suggestionByWords(word));
            }
        });
        sentence("Returns the number of the answer.");
        test("0 to 7", () -> {
            TicketWeaver x = new TicketWeaver();
            for (int i = 0; i < 8; i++) {
                c.due(i, x.addAnswer(1));
            }
        });
        sentence("Throws `IllegalArgumentException` if the number is out of range");
        refusedAround("number", 0, 1023, ARGUMENT, TicketWeaver::addAnswer);
        refused("before the 9th answer, too large", ARGUMENT, AnswerBounds::deskWithEightAnswers,
            x -> x.addAnswer(1024));
        refused("before the 9th answer, too small", ARGUMENT, AnswerBounds::deskWithEightAnswers,
            x -> x.addAnswer(-1));
        sentence("Throws `IllegalStateException` if there are 8 answers");
        refused("the 9th", STATE, AnswerBounds::deskWithEightAnswers, x -> x.addAnswer(1023));
        refused("the 9th, without words", STATE, AnswerBounds::deskWithEightAnswers, x -> x.addAnswer(0));
    }

    /** Eight answers; the mails of ticket 0, of this topic, were answered and closed so often with one of them. */
    private static TicketWeaver taught(int prepared, int topic, int times) {
        TicketWeaver x = deskWithEightAnswers();
        x.addAgent(ALL_SKILLS);
        x.setOnShift(0, true);
        x.mail(0, 0, -1, topic, 3);
        for (int i = 0; i < times; i++) {
            answerNext(x, prepared);
            x.close(0);
            x.mail(0, 0, -1, 0, 0);
        }
        return x;
    }

    private void weight() {
        promise(35);
        sentence("Returns the weight of a prepared answer for a topic.");
        test("of this answer and this topic alone", () -> {
            TicketWeaver x = taught(3, 2, 1);
            for (int answer = 0; answer < 8; answer++) {
                for (int topic = 0; topic < 6; topic++) {
                    c.due(answer == 3 && topic == 2 ? 1 : 0, x.weight(answer, topic));
                }
            }
        });
        sentence("`prepared`: the number of the answer");
        answers("0 is the first", 2, () -> taught(0, 1, 2).weight(0, 1));
        answers("7 is the last of 8", 3, () -> taught(7, 1, 3).weight(7, 1));
        sentence("`topic`: the topic, 0 to 5");
        answers("0 is the least", 2, () -> taught(1, 0, 2).weight(1, 0));
        answers("5 is the greatest", 3, () -> taught(1, 5, 3).weight(1, 5));
        sentence("Returns the weight.");
        answers("0 at first", 0, () -> taught(0, 0, 0).weight(0, 0));
        answers("9 at most", 9, () -> taught(0, 0, 12).weight(0, 0));
    }

    private void weightRefused() {
        sentence("Throws `NoSuchElementException` if there is no such answer");
        refusedAround("answer", 0, 1, NONE, (x, answer) -> x.weight(answer, 0));
        refused("0, when there is none", NONE, TicketWeaver::new, x -> x.weight(0, 0));
        refused("8, behind the last one of 8", NONE, AnswerBounds::deskWithEightAnswers, x -> x.weight(8, 0));
        refused("before the topic that is none", NONE, x -> x.weight(2, 6));
        sentence("Throws `IllegalArgumentException` if there is no such topic");
        refusedAround("topic", 0, 5, ARGUMENT, (x, topic) -> x.weight(1, topic));
    }

    private void suggestion(Ask suggestion) {
        answers("the only one", 0, () -> suggestion.of(taught(0, 0, 0), 0));
        test("open, held, answered and closed", () -> {
            TicketWeaver x = deskWithEightAnswers();
            x.addAgent(ALL_SKILLS);
            x.setOnShift(0, true);
            for (int i = 0; i < 4; i++) {
                x.mail(0, i, -1, 0, 1 << i);
            }
            x.hold(1);
            x.take(0);
            answerNext(x, -1);
            answerNext(x, -1);
            x.close(3);
            for (int i = 0; i < 4; i++) {
                c.due("ohac".charAt(i), x.stateOf(i));
                c.due(i, suggestion.of(x, i));
            }
        });
        firstAndLastTicket("`ticket`: the number of the ticket", 0, 1, (x, ticket) -> {
            x.addAnswer(1);
            x.addAnswer(2);
            return suggestion.of(x, ticket);
        });
        sentence("Returns the number of the answer.");
        answers("7 is the last of 8", 7, () -> {
            TicketWeaver x = deskWithEightAnswers();
            x.mail(0, 0, -1, 0, 1 << 7);
            return suggestion.of(x, 0);
        });
        noSuchTicket(suggestion);
        sentence("Throws `NoSuchElementException` if no answer has a word in common with it");
        refused("no answer at all", NONE, Bounds::fortyTickets, x -> suggestion.of(x, 0));
        refused("the ticket has no word", NONE, () -> {
            TicketWeaver x = deskWith(0, 1);
            x.addAnswer(1023);
            return x;
        }, x -> suggestion.of(x, 0));
        refused("the answers have no word", NONE, () -> {
            TicketWeaver x = fortyTickets();
            x.addAnswer(0);
            return x;
        }, x -> suggestion.of(x, 0));
        refused("all words but the ticket's", NONE, () -> {
            TicketWeaver x = fortyTickets();
            x.addAnswer(1022);
            return x;
        }, x -> suggestion.of(x, 0));
        refused("a weight of 9 is no word", NONE, () -> {
            TicketWeaver x = taught(7, 0, 9);
            x.mail(1, 0, -1, 0, 1 << 9);
            return x;
        }, x -> suggestion.of(x, 1));
        refused("a merged ticket, whose mails are the other one's", NONE, x -> suggestion.of(x, 4));
    }
}
