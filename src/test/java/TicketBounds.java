/** Promises 14 to 17 and 28 to 33: a ticket's topic and clock, and what is done with it. */
final class TicketBounds extends Bounds {
    private static final String TICKET = "`ticket`: the number of the ticket";
    private static final String NOT_OPEN_OR_HELD = "Throws `IllegalStateException` if it is neither open nor held";

    TicketBounds(Checks checks, Document document) {
        super(checks, document);
    }

    @Override
    void run() {
        setTopic();
        setTopicRefused();
        clock();
        leftOf();
        isBreached();
        giveBack();
        hold();
        resume();
        answer();
        answerRefused();
        close();
        merge();
        mergeRefused();
    }

    private void setTopic() {
        promise(14);
        sentence("Sets the topic of a ticket that is open or held; if its agent has not the skill, it is nobody's"
            + " then.");
        test("a ticket that waits, waits for the new topic alone", () -> {
            TicketWeaver x = sixAgents();
            c.due(1, x.waiting(0));
            x.setTopic(0, 5);
            c.due(0, x.waiting(0));
            c.due(2, x.waiting(5));
        });
        test("an agent with the skill keeps it", () -> {
            TicketWeaver x = deskWith(1, 1);
            x.take(0);
            x.setTopic(0, 5);
            c.due(0, x.agentOf(0));
            c.due(1, x.held(0));
        });
        test("an agent without the skill loses it, and it waits", () -> {
            TicketWeaver x = sixAgents();
            x.setTopic(1, 0);
            c.dueThrow(NONE, () -> x.agentOf(1));
            c.due(0, x.held(5));
            c.due(2, x.waiting(0));
        });
        test("a held one is nobody's then, and still held", () -> {
            TicketWeaver x = sixAgents();
            x.hold(1);
            x.setTopic(1, 0);
            c.dueThrow(NONE, () -> x.agentOf(1));
            c.due('h', x.stateOf(1));
            c.due(1, x.waiting(0));
        });
        test("its own topic once more", () -> {
            TicketWeaver x = sixAgents();
            x.setTopic(1, 5);
            c.due(5, x.agentOf(1));
        });
        firstAndLastTicket(TICKET, 0, 4, (x, ticket) -> x.setTopic(ticket, 2));
        sentence("`topic`: the topic, 0 to 5");
        answers("0 is the least", 0, () -> topicBehindSetting(0));
        answers("5 is the greatest", 5, () -> topicBehindSetting(5));
        sentence("Returns the topic before.");
        answers("that of its first mail", 5, () -> sixAgents().setTopic(1, 0));
    }

    private static int topicBehindSetting(int topic) {
        TicketWeaver x = deskWith(0, 1);
        x.setTopic(0, 3);
        x.setTopic(0, topic);
        return x.setTopic(0, 3);
    }

    private void setTopicRefused() {
        noSuchTicket((x, ticket) -> x.setTopic(ticket, 1));
        refused("before the topic that is none", INDEX, x -> x.setTopic(10, 6));
        sentence("Throws `IllegalArgumentException` if there is no such topic");
        refusedAround("topic", 0, 5, ARGUMENT, (x, topic) -> x.setTopic(0, topic));
        refused("32, whose bit would wrap around to that of 0", ARGUMENT, x -> x.setTopic(0, 32));
        refused("before a closed ticket", ARGUMENT, x -> x.setTopic(3, 6));
        refused("before a merged ticket", ARGUMENT, x -> x.setTopic(4, -1));
        sentence(NOT_OPEN_OR_HELD);
        refusedInStates("acm", STATE, (x, ticket) -> x.setTopic(ticket, 1));
        refused("the topic that it has", STATE, x -> x.setTopic(2, 0));
    }

    private void clock() {
        promise(15);
        sentence("Returns the clock of a ticket.");
        answers("0 at first", 0, () -> deskWith(0, 1).clock(0));
        firstAndLastTicket(TICKET, 5, 0, TicketWeaver::clock);
        sentence("Returns the number of minutes.");
        test("behind the least and the greatest step", () -> {
            TicketWeaver x = deskWith(0, 1);
            x.pass(1);
            c.due(1, x.clock(0));
            x.pass(600);
            c.due(601, x.clock(0));
        });
        noSuchTicket(TicketWeaver::clock);
        sentence(NOT_OPEN_OR_HELD);
        answers("held is enough", 7, () -> deskOfAllStates().clock(1));
        refusedInStates("acm", STATE, TicketWeaver::clock);
    }

    private void leftOf() {
        promise(16);
        sentence("Returns what is left of the promise of a ticket.");
        answers("all of it at first", 240, () -> deskWith(0, 1).leftOf(0));
        firstAndLastTicket(TICKET, 235, 240, TicketWeaver::leftOf);
        sentence("Returns the number of minutes, perhaps less than 0.");
        answers("1, one minute before the end", 1, () -> leftBehind(239));
        answers("0, when the clock is as great as the promise", 0, () -> leftBehind(240));
        answers("-1, one minute behind it", -1, () -> leftBehind(241));
        test("the least promise", () -> {
            TicketWeaver x = deskWith(0, 1);
            x.setPromise(0, 1);
            x.pass(600);
            c.due(-599, x.leftOf(0));
        });
        noSuchTicket(TicketWeaver::leftOf);
        sentence(NOT_OPEN_OR_HELD);
        answers("held is enough", 233, () -> deskOfAllStates().leftOf(1));
        refusedInStates("acm", STATE, TicketWeaver::leftOf);
    }

    private static TicketWeaver deskBehind(int minutes) {
        TicketWeaver x = deskWith(1, 2);
        x.pass(minutes);
        return x;
    }

    private static int leftBehind(int minutes) {
        return deskBehind(minutes).leftOf(0);
    }

    private void isBreached() {
        promise(17);
        sentence("Returns whether a ticket counts as breached.");
        answers("not at first", false, () -> deskWith(0, 1).isBreached(0));
        answers("not when the clock is as great as the promise", false, () -> deskBehind(240).isBreached(0));
        answers("one minute more", true, () -> deskBehind(241).isBreached(0));
        firstAndLastTicket(TICKET, true, false, (x, ticket) -> {
            x.pass(236);
            return x.isBreached(ticket);
        });
        sentence("Returns whether it does, false if it is neither open nor held.");
        answers("open", true, () -> deskBehind(241).isBreached(1));
        test("held", () -> {
            TicketWeaver x = deskBehind(241);
            x.hold(0);
            c.due(true, x.isBreached(0));
        });
        test("answered, and closed", () -> {
            TicketWeaver x = deskBehind(241);
            answerNext(x, -1);
            c.due(false, x.isBreached(0));
            x.close(0);
            c.due(false, x.isBreached(0));
        });
        test("merged", () -> {
            TicketWeaver x = deskBehind(241);
            x.merge(0, 1);
            c.due(false, x.isBreached(0));
            c.due(true, x.isBreached(1));
        });
        noSuchTicket((x, ticket) -> x.isBreached(ticket));
    }

    private void giveBack() {
        promise(28);
        sentence("Lets the agent of a ticket give it back: it is nobody's.");
        test("an open one waits again", () -> {
            TicketWeaver x = deskWith(1, 1);
            x.take(0);
            x.giveBack(0);
            c.dueThrow(NONE, () -> x.agentOf(0));
            c.due(0, x.nextFor(0));
        });
        test("a held one stays held", () -> {
            TicketWeaver x = deskWith(1, 1);
            x.take(0);
            x.hold(0);
            x.giveBack(0);
            c.dueThrow(NONE, () -> x.agentOf(0));
            c.due('h', x.stateOf(0));
            c.due(0, x.waiting(0));
        });
        firstAndLastTicket(TICKET, 0, 39, (x, ticket) -> {
            giveToNewAgent(x, ticket);
            x.giveBack(ticket);
            return x.nextFor(0);
        });
        sentence("Returns the number of tickets that the agent has then.");
        test("of 3 down to 0", () -> {
            TicketWeaver x = deskWith(1, 3);
            x.take(0);
            x.take(0);
            x.take(0);
            x.hold(2);
            c.due(2, x.giveBack(0));
            c.due(1, x.giveBack(2));
            c.due(0, x.giveBack(1));
        });
        noSuchTicket(TicketWeaver::giveBack);
        sentence("Throws `IllegalStateException` if it is nobody's");
        refused("one that waits", STATE, x -> x.giveBack(8));
        refused("a held one", STATE, x -> x.giveBack(1));
        refusedInStates("acm", STATE, TicketWeaver::giveBack);
        refused("one that was given back", STATE, () -> {
            TicketWeaver x = busyDesk();
            x.giveBack(0);
            return x;
        }, x -> x.giveBack(0));
    }

    private void hold() {
        promise(29);
        sentence("Holds a ticket.");
        test("one that waits does not wait any more", () -> {
            TicketWeaver x = deskWith(1, 1);
            x.hold(0);
            c.due('h', x.stateOf(0));
            c.due(0, x.waiting(0));
        });
        test("an agent's stays the agent's", () -> {
            TicketWeaver x = deskWith(1, 1);
            x.take(0);
            x.hold(0);
            c.due(0, x.agentOf(0));
            c.due(1, x.held(0));
        });
        firstAndLastTicket(TICKET, 5, 0, TicketWeaver::hold);
        sentence("Returns its clock.");
        answers("behind a breach", 241, () -> deskBehind(241).hold(1));
        noSuchTicket(TicketWeaver::hold);
        sentence("Throws `IllegalStateException` if it is not open");
        refusedInStates("hacm", STATE, TicketWeaver::hold);
    }

    private void resume() {
        promise(30);
        sentence("Opens a held ticket again.");
        test("nobody's waits again", () -> {
            TicketWeaver x = deskWith(1, 1);
            x.hold(0);
            x.resume(0);
            c.due('o', x.stateOf(0));
            c.due(1, x.waiting(0));
        });
        test("an agent's is the agent's", () -> {
            TicketWeaver x = deskWith(1, 1);
            x.take(0);
            x.hold(0);
            x.resume(0);
            c.due(0, x.agentOf(0));
            c.due(0, x.waiting(0));
        });
        firstAndLastTicket(TICKET, 5, 0, (x, ticket) -> {
            x.hold(ticket);
            x.pass(9);
            return x.resume(ticket);
        });
        sentence("Returns its clock.");
        answers("behind a breach", 241, () -> {
            TicketWeaver x = deskBehind(241);
            x.hold(1);
            x.pass(600);
            return x.resume(1);
        });
        noSuchTicket(TicketWeaver::resume);
        sentence("Throws `IllegalStateException` if it is not held");
        refusedInStates("oacm", STATE, TicketWeaver::resume);
    }

    private void answer() {
        promise(31);
        sentence("Answers an open ticket: its agent sends a prepared answer, or another text; it is nobody's then.");
        test("the agent of 3 tickets has room again", () -> {
            TicketWeaver x = deskWith(1, 4);
            x.take(0);
            x.take(0);
            x.take(0);
            x.answer(1, -1);
            c.due('a', x.stateOf(1));
            c.dueThrow(NONE, () -> x.agentOf(1));
            c.due(2, x.held(0));
            c.due(3, x.take(0));
        });
        firstAndLastTicket(TICKET, 5, 0, (x, ticket) -> {
            giveToNewAgent(x, ticket);
            return x.answer(ticket, -1);
        });
        sentence("`prepared`: the number of the prepared answer, or -1 for another text");
        test("0 is the first", () -> onlyThisWeightRises(0));
        test("7 is the last of 8", () -> onlyThisWeightRises(7));
        test("-1: another text", () -> onlyThisWeightRises(-1));
        sentence("Returns its clock.");
        answers("0", 0, () -> deskWithAnswers(0).answer(0, -1));
        answers("behind a breach", 241, () -> {
            TicketWeaver x = deskWithAnswers(1);
            x.pass(241);
            return x.answer(0, 0);
        });
    }

    private static TicketWeaver deskWithAnswers(int answers) {
        TicketWeaver x = deskWith(1, 1);
        for (int i = 0; i < answers; i++) {
            x.addAnswer(i);
        }
        x.take(0);
        return x;
    }

    private void onlyThisWeightRises(int answer) {
        TicketWeaver x = deskWithAnswers(8);
        x.answer(0, answer);
        x.close(0);
        for (int i = 0; i < 8; i++) {
            c.due(i == answer ? 1 : 0, x.weight(i, 0));
        }
    }

    private void answerRefused() {
        noSuchTicket((x, ticket) -> x.answer(ticket, -1));
        refused("before the answer that is none", INDEX, x -> x.answer(10, 2));
        sentence("Throws `IllegalStateException` if it is not open, or it is nobody's");
        refused("one that waits", STATE, x -> x.answer(8, 0));
        refused("a held one of nobody", STATE, x -> x.answer(1, 0));
        refused("a held one of an agent", STATE, () -> {
            TicketWeaver x = busyDesk();
            x.hold(0);
            return x;
        }, x -> x.answer(0, 0));
        refusedInStates("acm", STATE, (x, ticket) -> x.answer(ticket, -1));
        refused("nobody's, before the answer that is none", STATE, x -> x.answer(8, 2));
        refused("answered, before the answer that is none", STATE, x -> x.answer(2, -2));
        sentence("Throws `NoSuchElementException` if the answer is neither -1 nor the number of one");
        refusedAround("answer", -1, 1, NONE, (x, answer) -> x.answer(0, answer));
        refused("0, when there is none", NONE, () -> deskWithAnswers(0), x -> x.answer(0, 0));
        refused("8, behind the last one of 8", NONE, () -> deskWithAnswers(8), x -> x.answer(0, 8));
    }

    private void close() {
        promise(32);
        sentence("Closes a ticket that is answered.");
        test("it is closed and nobody's", () -> {
            TicketWeaver x = deskOfAllStates();
            x.close(2);
            c.due('c', x.stateOf(2));
            c.dueThrow(NONE, () -> x.agentOf(2));
        });
        firstAndLastTicket(TICKET, "1c", "1c", (x, ticket) -> {
            answerByNewAgent(x, ticket, -1);
            return "" + x.close(ticket) + x.stateOf(ticket);
        });
        sentence("Returns the number of tickets that are closed now.");
        test("from the first up to all 40", () -> {
            TicketWeaver x = deskWith(1, 40);
            for (int i = 0; i < 40; i++) {
                answerNext(x, -1);
                c.due(i + 1, x.close(i));
            }
        });
        test("one that was opened again does not count", () -> {
            TicketWeaver x = deskWith(1, 2);
            closeNextAndWait(x, 1440);
            x.mail(0, 0, -1, 0, 0);
            x.take(0);
            x.answer(1, -1);
            c.due(1, x.close(1));
        });
        test("one that was closed long ago counts", () -> {
            TicketWeaver x = deskWith(1, 2);
            closeNextAndWait(x, 9999);
            answerNext(x, -1);
            c.due(2, x.close(1));
        });
        noSuchTicket(TicketWeaver::close);
        sentence("Throws `IllegalStateException` if it is not answered");
        refusedInStates("ohcm", STATE, TicketWeaver::close);
    }

    private void merge() {
        promise(33);
        sentence("Merges a ticket into another one.");
        test("into a later one, and into an earlier one", () -> {
            TicketWeaver x = deskWith(0, 3);
            x.merge(1, 2);
            x.merge(2, 0);
            c.due('m', x.stateOf(1));
            c.due('m', x.stateOf(2));
            c.due('o', x.stateOf(0));
        });
        firstAndLastTicket(TICKET, 2, 3, (x, ticket) -> x.merge(ticket, ticket == 0 ? 1 : 38));
        firstAndLastTicket("`other`: the number of the other ticket", 2, 3,
            (x, ticket) -> x.merge(ticket == 0 ? 1 : 38, ticket));
        sentence("Returns the number of mails of the other ticket.");
        answers("2 at least", 2, () -> deskWith(0, 2).merge(0, 1));
        test("80 at most", () -> {
            TicketWeaver x = deskWith(0, 2);
            for (int i = 2; i < 80; i++) {
                x.mail(0, i % 2, -1, 0, 0);
            }
            c.due(80, x.merge(0, 1));
        });
    }

    private void mergeRefused() {
        String none = "Throws `IndexOutOfBoundsException` if there is no such ticket, for either";
        noSuchTicket(none, (x, ticket) -> x.merge(ticket, 0));
        noSuchTicket(none, (x, ticket) -> x.merge(0, ticket));
        refused("before both are the same", INDEX, x -> x.merge(10, 10));
        refused("before the state of the first", INDEX, x -> x.merge(3, 10));
        refused("before the state of the other", INDEX, x -> x.merge(10, 3));
        sentence("Throws `IllegalArgumentException` if both are the same");
        refused("the first one", ARGUMENT, x -> x.merge(0, 0));
        refused("the last one", ARGUMENT, x -> x.merge(9, 9));
        refusedInStates("ohacm", ARGUMENT, (x, ticket) -> x.merge(ticket, ticket));
        sentence("Throws `IllegalStateException` if one of them is neither open nor held");
        refusedInStates("acm", STATE, (x, ticket) -> x.merge(ticket, 0));
        refusedInStates("acm", STATE, (x, ticket) -> x.merge(0, ticket));
        refused("neither of both", STATE, x -> x.merge(2, 3));
        refused("once more into the same", STATE, x -> x.merge(4, 1));
        refused("the first, before the customers", STATE, x -> x.merge(3, 9));
        refused("the other, before the customers", STATE, x -> x.merge(9, 3));
        answers("held ones both", 2, () -> {
            TicketWeaver x = deskWith(0, 2);
            x.hold(0);
            x.hold(1);
            return x.merge(0, 1);
        });
        sentence("Throws `UnsupportedOperationException` if they are of different customers");
        refused("the first one's", UNSUPPORTED, x -> x.merge(0, 9));
        refused("the other one's", UNSUPPORTED, x -> x.merge(9, 0));
        refused("of the same subject", UNSUPPORTED, () -> deskWith(0, 40), x -> x.merge(0, 20));
    }
}
