/** Promises 18 to 27: agents, the next ticket, taking and handing over. */
final class AgentBounds extends Bounds {
    private static final String TICKET = "`ticket`: the number of the ticket";

    AgentBounds(Checks checks, Document document) {
        super(checks, document);
    }

    @Override
    void run() {
        addAgent();
        learn();
        setOnShift();
        held();
        agentOf();
        promise(23);
        sentence("Returns the next ticket for an agent, found from queues that are kept for each topic.");
        next(TicketWeaver::nextFor);
        promise(24);
        sentence("Returns the same ticket, found by looking at all tickets.");
        next(TicketWeaver::nextByTickets);
        waiting();
        take();
        takeRefused();
        handOver();
        handOverRefused();
    }

    private void addAgent() {
        promise(18);
        sentence("Adds an agent.");
        test("off shift, without tickets", () -> {
            TicketWeaver x = deskWith(0, 1);
            x.addAgent(ALL_SKILLS);
            c.due(0, x.held(0));
            c.due(0, x.waiting(0));
            c.due(false, x.setOnShift(0, true));
        });
        sentence("`skills`: the skills, 0 to 63");
        answers("0: none", 0, () -> topicsFor(0));
        answers("63: all", 6, () -> topicsFor(63));
        sentence("Returns the number of the agent.");
        test("0 to 5", () -> {
            TicketWeaver x = new TicketWeaver();
            for (int i = 0; i < 6; i++) {
                c.due(i, x.addAgent(i));
            }
        });
        sentence("Throws `IllegalArgumentException` if the number is out of range");
        refusedAround("number", 0, 63, ARGUMENT, TicketWeaver::addAgent);
        refused("before the 7th agent, too large", ARGUMENT, Bounds::sixAgents, x -> x.addAgent(64));
        refused("before the 7th agent, too small", ARGUMENT, Bounds::sixAgents, x -> x.addAgent(-1));
        sentence("Throws `IllegalStateException` if there are 6 agents");
        answers("the 6th is added", 5, () -> busyDesk().addAgent(63));
        refused("the 7th", STATE, Bounds::sixAgents, x -> x.addAgent(63));
        refused("the 7th, without skills", STATE, Bounds::sixAgents, x -> x.addAgent(0));
    }

    /** How many of the tickets of topics 0 to 5 are for an agent of these skills. */
    private static int topicsFor(int skills) {
        TicketWeaver x = new TicketWeaver();
        x.addAgent(skills);
        x.setOnShift(0, true);
        for (int topic = 0; topic < 6; topic++) {
            x.mail(0, topic, -1, topic, 0);
        }
        return x.waiting(0);
    }

    private void learn() {
        promise(19);
        sentence("Lets an agent learn a skill.");
        test("what waits is for the agent then", () -> {
            TicketWeaver x = sixAgents();
            x.learn(0, 5);
            c.due(2, x.waiting(0));
            c.due(1, x.waiting(5));
        });
        test("off shift, too", () -> {
            TicketWeaver x = sixAgents();
            x.learn(1, 5);
            c.due(0, x.waiting(1));
            x.setOnShift(1, true);
            c.due(2, x.nextFor(1));
        });
        firstAndLastAgent(2, 3, (x, agent) -> x.learn(agent, 3));
        sentence("`topic`: the topic, 0 to 5");
        test("0 is the least", () -> canAnswerBehindLearning(0));
        test("5 is the greatest", () -> canAnswerBehindLearning(5));
        sentence("Returns the number of skills of the agent.");
        test("from the first to the last", () -> {
            TicketWeaver x = new TicketWeaver();
            x.addAgent(0);
            for (int topic = 0; topic < 6; topic++) {
                c.due(topic + 1, x.learn(0, topic));
            }
        });
        noSuchAgent((x, agent) -> x.learn(agent, 1));
        refused("before the topic that is none", INDEX, x -> x.learn(5, 6));
        sentence("Throws `IllegalArgumentException` if there is no such topic");
        refusedAround("topic", 0, 5, ARGUMENT, (x, topic) -> x.learn(0, topic));
        refused("32, whose bit would wrap around to that of 0", ARGUMENT, x -> x.learn(2, 32));
        refused("32, of an agent with the skill for topic 0", ARGUMENT, x -> x.learn(0, 32));
        refused("of an agent with all skills", ARGUMENT, x -> x.learn(3, 6));
        sentence("Throws `UnsupportedOperationException` if the agent has the skill");
        refused("from the beginning, 0", UNSUPPORTED, x -> x.learn(0, 0));
        refused("from the beginning, 5", UNSUPPORTED, x -> x.learn(3, 5));
        refused("learnt before", UNSUPPORTED, () -> {
            TicketWeaver x = busyDesk();
            x.learn(0, 5);
            return x;
        }, x -> x.learn(0, 5));
    }

    private void canAnswerBehindLearning(int topic) {
        TicketWeaver x = new TicketWeaver();
        x.addAgent(0);
        x.setOnShift(0, true);
        x.mail(0, 0, -1, topic, 0);
        c.due(1, x.learn(0, topic));
        c.due(1, x.waiting(0));
    }

    /** Agent 0 has 3 tickets, one of them held, agent 1 has one, and one waits. */
    private static TicketWeaver twoWithTickets() {
        TicketWeaver x = deskWith(2, 5);
        x.take(0);
        x.take(0);
        x.take(0);
        x.hold(1);
        x.take(1);
        return x;
    }

    private void setOnShift() {
        promise(20);
        sentence("Lets an agent begin or end a shift; at its end, the agent's tickets are nobody's.");
        test("all 3, the held one among them", () -> {
            TicketWeaver x = twoWithTickets();
            x.setOnShift(0, false);
            c.due(0, x.held(0));
            for (int i = 0; i < 3; i++) {
                int ticket = i;
                c.dueThrow(NONE, () -> x.agentOf(ticket));
            }
            c.due("oho", "" + x.stateOf(0) + x.stateOf(1) + x.stateOf(2));
            c.due(3, x.waiting(1));
        });
        test("another agent's are not", () -> {
            TicketWeaver x = twoWithTickets();
            x.setOnShift(0, false);
            c.due(1, x.agentOf(3));
        });
        test("at a beginning behind it, the agent has none", () -> {
            TicketWeaver x = twoWithTickets();
            x.setOnShift(0, false);
            x.setOnShift(0, true);
            c.due(0, x.held(0));
            c.due(0, x.take(0));
        });
        firstAndLastAgent(true, true, (x, agent) -> x.setOnShift(agent, false));
        sentence("`isOn`: whether the agent is on shift from now on");
        test("on, when the agent is on: the tickets stay", () -> {
            TicketWeaver x = twoWithTickets();
            x.setOnShift(0, true);
            c.due(3, x.held(0));
        });
        test("off, when the agent is off", () -> {
            TicketWeaver x = sixAgents();
            x.setOnShift(4, false);
            c.due(false, x.setOnShift(4, false));
            c.due(1, x.held(5));
        });
        sentence("Returns whether the agent was on shift before.");
        test("all four cases", () -> {
            TicketWeaver x = new TicketWeaver();
            x.addAgent(0);
            c.due(false, x.setOnShift(0, false));
            c.due(false, x.setOnShift(0, true));
            c.due(true, x.setOnShift(0, true));
            c.due(true, x.setOnShift(0, false));
        });
        noSuchAgent((x, agent) -> x.setOnShift(agent, true));
        noSuchAgent((x, agent) -> x.setOnShift(agent, false));
    }

    private void held() {
        promise(21);
        sentence("Returns the number of tickets that an agent has.");
        answers("0 at first", 0, () -> deskWith(1, 3).held(0));
        firstAndLastAgent(0, 1, TicketWeaver::held);
        sentence("Returns the number of tickets.");
        answers("3 at most, a held one among them", 3, () -> twoWithTickets().held(0));
        test("an answered one is nobody's", () -> {
            TicketWeaver x = twoWithTickets();
            x.answer(0, -1);
            c.due(2, x.held(0));
        });
        test("a merged one is nobody's", () -> {
            TicketWeaver x = twoWithTickets();
            x.merge(0, 1);
            c.due(2, x.held(0));
        });
        noSuchAgent(TicketWeaver::held);
    }

    private void agentOf() {
        promise(22);
        sentence("Returns the agent who has a ticket.");
        test("of a held one, too", () -> {
            TicketWeaver x = twoWithTickets();
            c.due(0, x.agentOf(1));
            c.due(1, x.agentOf(3));
        });
        firstAndLastTicket(TICKET, 0, 0, (x, ticket) -> {
            giveToNewAgent(x, ticket);
            return x.agentOf(ticket);
        });
        sentence("Returns the number of the agent.");
        answers("0 is the first", 0, () -> busyDesk().agentOf(0));
        answers("5 is the last of 6", 5, () -> sixAgents().agentOf(1));
        noSuchTicket(TicketWeaver::agentOf);
        sentence("Throws `NoSuchElementException` if it is nobody's");
        refused("one that waits", NONE, x -> x.agentOf(8));
        refused("a held one", NONE, x -> x.agentOf(1));
        refusedInStates("acm", NONE, TicketWeaver::agentOf);
    }

    private void next(Ask next) {
        answers("the only one of 40 that waits", 39, () -> {
            TicketWeaver x = deskWith(1, 40);
            for (int ticket = 0; ticket < 39; ticket++) {
                x.hold(ticket);
            }
            return next.of(x, 0);
        });
        answers("the first of 40", 0, () -> next.of(deskWith(1, 40), 0));
        firstAndLastAgent(0, 2, next);
        sentence("Returns the number of the ticket.");
        test("asking takes nothing away", () -> {
            TicketWeaver x = sixAgents();
            c.due(2, next.of(x, 5));
            c.due(2, next.of(x, 5));
            c.due(1, x.held(5));
        });
        answers("for an agent with 3 tickets, too", 4, () -> next.of(twoWithTickets(), 0));
        noSuchAgent(next);
        sentence("Throws `NoSuchElementException` if there is none");
        refused("no ticket at all", NONE, () -> deskWith(1), x -> next.of(x, 0));
        refused("the agent is off shift", NONE, Bounds::sixAgents, x -> next.of(x, 1));
        refused("the agent has not the skill", NONE, x -> next.of(x, 4));
        refused("the agent has no skill at all", NONE, () -> {
            TicketWeaver x = busyDesk();
            x.addAgent(0);
            x.setOnShift(5, true);
            return x;
        }, x -> next.of(x, 5));
        refused("an agent has it", NONE, () -> {
            TicketWeaver x = deskWith(2, 1);
            x.take(1);
            return x;
        }, x -> next.of(x, 0));
        refused("held, answered, closed, merged, or an agent's", NONE, DeskTests::deskOfAllStates,
            x -> next.of(x, 0));
    }

    private void waiting() {
        promise(25);
        sentence("Returns the number of tickets for an agent.");
        answers("0, as there is no ticket", 0, () -> deskWith(1).waiting(0));
        firstAndLastAgent(1, 1, TicketWeaver::waiting);
        sentence("Returns the number of tickets.");
        answers("40, all that there can be", 40, () -> deskWith(1, 40).waiting(0));
        answers("of all six topics", 6, () -> topicsFor(63));
        test("a ticket of 80 mails once", () -> {
            TicketWeaver x = deskWith(1, 1);
            for (int i = 1; i < 80; i++) {
                x.mail(0, 0, -1, 0, 0);
            }
            c.due(1, x.waiting(0));
            x.take(0);
            c.due(0, x.waiting(0));
        });
        answers("0 off shift", 0, () -> busyDesk().waiting(2));
        answers("0 without the skill", 0, () -> busyDesk().waiting(4));
        answers("for an agent with 3 tickets, too", 2, () -> busyDesk().waiting(1));
        answers("none in another state, or an agent's", 0, () -> deskOfAllStates().waiting(0));
        noSuchAgent(TicketWeaver::waiting);
    }

    private void take() {
        promise(26);
        sentence("Lets an agent take the next ticket.");
        test("the agent has it, and it does not wait any more", () -> {
            TicketWeaver x = deskWith(2, 1);
            x.take(1);
            c.due(1, x.agentOf(0));
            c.due(0, x.waiting(0));
            c.due(0, x.waiting(1));
        });
        firstAndLastAgent(0, 2, TicketWeaver::take);
        sentence("Returns the number of the ticket.");
        test("the third of 3", () -> {
            TicketWeaver x = deskWith(1, 4);
            c.due(0, x.take(0));
            c.due(1, x.take(0));
            c.due(2, x.take(0));
            c.due(3, x.held(0));
        });
    }

    private void takeRefused() {
        noSuchAgent(TicketWeaver::take);
        sentence("Throws `IllegalStateException` if the agent is off shift, or has 3 tickets");
        refused("off shift", STATE, Bounds::sixAgents, x -> x.take(1));
        refused("off shift again", STATE, () -> {
            TicketWeaver x = deskWith(1, 1);
            x.setOnShift(0, false);
            return x;
        }, x -> x.take(0));
        refused("3 open tickets", STATE, x -> x.take(1));
        refused("3 tickets, a held one among them", STATE, AgentBounds::twoWithTickets, x -> x.take(0));
        refused("off shift, before that there is none", STATE, () -> {
            TicketWeaver x = new TicketWeaver();
            x.addAgent(ALL_SKILLS);
            return x;
        }, x -> x.take(0));
        refused("3 tickets, before that there is none", STATE, () -> {
            TicketWeaver x = twoWithTickets();
            x.take(1);
            return x;
        }, x -> x.take(0));
        sentence("Throws `NoSuchElementException` if there is none");
        refused("no ticket at all", NONE, () -> deskWith(1), x -> x.take(0));
        refused("none of the agent's topic", NONE, x -> x.take(4));
        refused("the agent has the only one", NONE, () -> {
            TicketWeaver x = deskWith(1, 1);
            x.take(0);
            return x;
        }, x -> x.take(0));
        refused("held, answered, closed, merged, or an agent's", NONE, DeskTests::deskOfAllStates, x -> x.take(0));
    }

    private void handOver() {
        promise(27);
        sentence("Hands a ticket over to another agent.");
        test("the one has one less, the other one more", () -> {
            TicketWeaver x = twoWithTickets();
            x.handOver(0, 1);
            c.due(1, x.agentOf(0));
            c.due(2, x.held(0));
            c.due(2, x.held(1));
        });
        test("a held one stays held", () -> {
            TicketWeaver x = twoWithTickets();
            x.handOver(1, 1);
            c.due('h', x.stateOf(1));
            c.due(1, x.agentOf(1));
        });
        test("the third of 3", () -> {
            TicketWeaver x = twoWithTickets();
            x.handOver(0, 1);
            x.handOver(1, 1);
            c.due(3, x.held(1));
        });
        firstAndLastTicket(TICKET, 1, 1, (x, ticket) -> {
            giveToNewAgent(x, ticket);
            x.addAgent(ALL_SKILLS);
            x.setOnShift(1, true);
            int times = x.handOver(ticket, 1);
            return times * x.agentOf(ticket);
        });
        firstAndLastAgent(0, 5, (x, agent) -> {
            x.learn(0, 5);
            x.handOver(1, 0);
            x.take(5);
            x.handOver(agent == 0 ? 2 : 1, agent);
            return x.agentOf(agent == 0 ? 2 : 1);
        });
        sentence("Returns how often it was handed over.");
        test("from the first time on, each ticket for itself", () -> {
            TicketWeaver x = twoWithTickets();
            for (int i = 0; i < 100; i++) {
                c.due(i + 1, x.handOver(0, 1 - i % 2));
            }
            c.due(1, x.handOver(1, 1));
        });
        test("giving back and taking does not count", () -> {
            TicketWeaver x = deskWith(2, 1);
            x.take(0);
            x.giveBack(0);
            x.take(1);
            c.due(1, x.handOver(0, 0));
        });
    }

    private void handOverRefused() {
        String none = "Throws `IndexOutOfBoundsException` if there is no such ticket or agent";
        noSuchTicket(none, (x, ticket) -> x.handOver(ticket, 3));
        noSuchAgent(none, (x, agent) -> x.handOver(0, agent));
        refused("neither ticket nor agent", INDEX, x -> x.handOver(10, 5));
        refused("no agent, before that it is nobody's", INDEX, x -> x.handOver(8, 5));
        refused("no ticket, before that the agent has 3", INDEX, x -> x.handOver(10, 1));
        refused("no ticket, before that the agent is off shift", INDEX, x -> x.handOver(10, 2));
        sentence("Throws `IllegalStateException` if it is nobody's, or this agent has it, or has 3 tickets");
        refused("nobody's, and it waits", STATE, x -> x.handOver(8, 3));
        refused("nobody's, and it is held", STATE, x -> x.handOver(1, 3));
        refused("nobody's, as it is answered", STATE, x -> x.handOver(2, 3));
        refused("nobody's, as it is closed", STATE, x -> x.handOver(3, 3));
        refused("nobody's, as it is merged", STATE, x -> x.handOver(4, 3));
        refused("this agent has it", STATE, x -> x.handOver(0, 0));
        refused("this agent has it, and 3", STATE, x -> x.handOver(5, 1));
        refused("this agent has 3", STATE, x -> x.handOver(0, 1));
        refused("nobody's, before that the agent is off shift", STATE, x -> x.handOver(8, 2));
        refused("nobody's, before that the agent has not the skill", STATE, x -> x.handOver(8, 4));
        refused("this agent has 3, before that the skill is not there", STATE, () -> {
            TicketWeaver x = busyDesk();
            x.handOver(0, 3);
            x.setTopic(0, 5);
            return x;
        }, x -> x.handOver(0, 1));
        sentence("Throws `UnsupportedOperationException` if this agent cannot answer it");
        refused("on shift, without the skill", UNSUPPORTED, x -> x.handOver(0, 4));
        refused("off shift, with the skill", UNSUPPORTED, () -> {
            TicketWeaver x = busyDesk();
            x.learn(2, 0);
            return x;
        }, x -> x.handOver(0, 2));
        refused("off shift, without the skill", UNSUPPORTED, x -> x.handOver(0, 2));
    }
}
