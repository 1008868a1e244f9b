import java.util.function.Consumer;
import java.util.function.Supplier;

/** Tests of boundary cases, each of them named for the sentence of the document that it belongs to. */
abstract class Bounds extends DeskTests {
    private final Document document;
    private String heading = "";
    private String sentence = "";

    Bounds(Checks checks, Document document) {
        super(checks);
        this.document = document;
    }

    abstract void run();

    final void terms() {
        heading = "Terms";
    }

    final void promise(int number) {
        heading = "Promise " + number;
    }

    final void sentence(String text) {
        sentence = text;
        if (!document.says(heading, text)) {
            c.test(heading, () -> c.due("a sentence of the document", text));
        }
    }

    final void test(String bound, Checks.Test test) {
        document.markTested(heading, sentence);
        c.test(heading + ", " + sentence + " [" + bound + "]", test);
    }

    final void answers(String bound, Object due, Checks.Call call) {
        test(bound, () -> c.due(due, call.answer()));
    }

    /** The call throws just this, and the desk lives on like its twin that was not asked. */
    final void refused(String bound, Class<? extends Exception> due, Supplier<TicketWeaver> desk,
            Consumer<TicketWeaver> call) {
        test(bound, () -> {
            TicketWeaver asked = desk.get();
            c.dueThrow(due, () -> {
                call.accept(asked);
                return "no throw";
            });
            sameLife(desk.get(), asked);
        });
    }

    /** Tells the first answer in which both differ. */
    final void sameLife(TicketWeaver want, TicketWeaver got) {
        String[] due = Life.of(want).split("\n");
        String[] told = Life.of(got).split("\n");
        for (int i = 0; i < due.length && i < told.length; i++) {
            if (!due[i].equals(told[i])) {
                c.due(due[i], told[i]);
                return;
            }
        }
        c.due(due.length, told.length);
    }

    final void refused(String bound, Class<? extends Exception> due, Consumer<TicketWeaver> call) {
        refused(bound, due, DeskTests::busyDesk, call);
    }

    /** Of the range, the number below, the number above, and the two that are farthest out of it. */
    final void refusedAround(String what, int least, int greatest, Class<? extends Exception> due, Ask call) {
        refused(what + " " + (least - 1) + " is too small", due, x -> call.of(x, least - 1));
        refused(what + " " + (greatest + 1) + " is too large", due, x -> call.of(x, greatest + 1));
        refused("the smallest " + what + " of all", due, x -> call.of(x, LOW));
        refused("the largest " + what + " of all", due, x -> call.of(x, HIGH));
    }

    /** Tickets 0 and 39 are the first and the last one that there can be. */
    final void firstAndLastTicket(String parameter, Object dueOfFirst, Object dueOfLast, Ask call) {
        sentence(parameter);
        answers("0 is the first", dueOfFirst, () -> call.of(fortyTickets(), 0));
        answers("39 is the last of 40", dueOfLast, () -> call.of(fortyTickets(), 39));
    }

    final void noSuchTicket(String sentence, Ask call) {
        sentence(sentence);
        refusedAround("ticket", 0, 9, INDEX, call);
        refused("0, when there is none", INDEX, TicketWeaver::new, x -> call.of(x, 0));
        refused("40, behind the last one of 40", INDEX, Bounds::fortyTickets, x -> call.of(x, 40));
    }

    final void noSuchTicket(Ask call) {
        noSuchTicket("Throws `IndexOutOfBoundsException` if there is no such ticket", call);
    }

    final void firstAndLastAgent(Object dueOfFirst, Object dueOfLast, Ask call) {
        sentence("`agent`: the number of the agent");
        answers("0 is the first", dueOfFirst, () -> call.of(sixAgents(), 0));
        answers("5 is the last of 6", dueOfLast, () -> call.of(sixAgents(), 5));
    }

    final void noSuchAgent(String sentence, Ask call) {
        sentence(sentence);
        refusedAround("agent", 0, 4, INDEX, call);
        refused("0, when there is none", INDEX, () -> deskWith(0, 1), x -> call.of(x, 0));
        refused("6, behind the last one of 6", INDEX, Bounds::sixAgents, x -> call.of(x, 6));
    }

    final void noSuchAgent(Ask call) {
        noSuchAgent("Throws `IndexOutOfBoundsException` if there is no such agent", call);
    }

    /** Of tickets in the states 'o', 'h', 'a', 'c' and 'm', those that the call does not fit are refused. */
    final void refusedInStates(String states, Class<? extends Exception> due, Ask call) {
        for (int i = 0; i < states.length(); i++) {
            char state = states.charAt(i);
            refused("'" + state + "'", due, DeskTests::deskOfAllStates, x -> call.of(x, "ohacm".indexOf(state)));
        }
    }

    /** Ticket 0 has the clock 5 and the word 0; ticket 39 is new, of topic 4, with two mails and the word 1. */
    static TicketWeaver fortyTickets() {
        TicketWeaver x = new TicketWeaver();
        x.mail(0, 0, -1, 0, 1);
        x.pass(5);
        for (int i = 1; i < 40; i++) {
            x.mail(i / 20, i % 20, -1, i == 39 ? 4 : 0, 0);
        }
        x.mail(1, 19, -1, 0, 2);
        return x;
    }

    /** Agents 0 and 5 are on shift, with the topics 0, and 4 and 5; a ticket waits for each, and agent 5 has one. */
    static TicketWeaver sixAgents() {
        TicketWeaver x = new TicketWeaver();
        for (int agent = 0; agent < 6; agent++) {
            x.addAgent(agent == 5 ? 0b110000 : 1 << agent);
        }
        x.setOnShift(0, true);
        x.setOnShift(5, true);
        x.mail(0, 0, -1, 0, 0);
        x.mail(0, 1, -1, 5, 0);
        x.mail(0, 2, -1, 5, 0);
        x.take(5);
        return x;
    }

    /** Hands this very ticket to a new agent, whose topic is 5. */
    static int giveToNewAgent(TicketWeaver x, int ticket) {
        int agent = x.addAgent(1 << 5);
        x.setOnShift(agent, true);
        x.setTopic(ticket, 5);
        return x.take(agent);
    }

    static void answerByNewAgent(TicketWeaver x, int ticket, int prepared) {
        giveToNewAgent(x, ticket);
        x.answer(ticket, prepared);
    }
}
