/** Writes down what a desk answers: all that can be asked of it, then a day's work, and all once more. */
final class Life {
    /** The document promises 512 calls of an object; the rest is for those that made the desk. */
    private static final int MOST_CALLS = 400;

    private final TicketWeaver x;
    private final StringBuilder told = new StringBuilder();
    private int calls;

    private Life(TicketWeaver desk) {
        x = desk;
    }

    static String of(TicketWeaver desk) {
        Life life = new Life(desk);
        life.askAll();
        life.work();
        life.askAll();
        return life.told.toString();
    }

    /** What can be asked without a change. */
    static String viewOf(TicketWeaver desk) {
        Life life = new Life(desk);
        life.askAll();
        return life.told.toString();
    }

    private void ask(String name, Checks.Call call) {
        if (calls < MOST_CALLS) {
            calls++;
            told.append(name).append(' ').append(Checks.outcome(call)).append('\n');
        }
    }

    private void askAll() {
        askCounts();
        int tickets = x.tickets();
        for (int i = 0; i < tickets; i++) {
            askTicket(i);
        }
        int mails = x.mails();
        for (int i = 0; i < mails; i++) {
            int mail = i;
            ask("ticketOf", () -> x.ticketOf(mail));
        }
    }

    private void askCounts() {
        ask("time", x::time);
        ask("mails", x::mails);
        ask("tickets", x::tickets);
        ask("breaches", x::breaches);
        ask("answers", x::answers);
        ask("minutesOpen", x::minutesOpen);
        ask("keptShare", x::keptShare);
        ask("meanClock", x::meanClock);
        ask("isSound", x::isSound);
        for (int i = 0; i < 6; i++) {
            int agent = i;
            ask("held", () -> x.held(agent));
            ask("waiting", () -> x.waiting(agent));
            ask("nextFor", () -> x.nextFor(agent));
            ask("weight 0", () -> x.weight(0, agent));
            ask("weight 1", () -> x.weight(1, agent));
        }
    }

    private void askTicket(int ticket) {
        ask("stateOf", () -> x.stateOf(ticket));
        ask("mailsOf", () -> x.mailsOf(ticket));
        ask("agentOf", () -> x.agentOf(ticket));
        ask("leftOf", () -> x.leftOf(ticket));
        ask("isBreached", () -> x.isBreached(ticket));
        ask("suggestion", () -> x.suggestion(ticket));
    }

    /** Calls whose answers tell what no question does: classes, promises, topics, skills, hand-overs, numbers. */
    private void work() {
        int tickets = Math.min(x.tickets(), 10);
        for (int i = 0; i < tickets; i++) {
            int ticket = i;
            ask("handOver", () -> x.handOver(ticket, 3));
            ask("giveBack", () -> x.giveBack(ticket));
            ask("mail", () -> x.mail(0, ticket, -1, 1, 8));
            ask("setTopic", () -> x.setTopic(ticket, 0));
        }
        for (int i = 0; i < 6; i++) {
            int number = i;
            ask("learn", () -> x.learn(0, number));
            ask("setOnShift", () -> x.setOnShift(number, true));
            ask("setClass", () -> x.setClass(number, 0));
        }
        for (int i = 0; i < 3; i++) {
            int level = i;
            ask("setPromise", () -> x.setPromise(level, 100));
        }
        ask("addAgent", () -> x.addAgent(1));
        ask("addAnswer", () -> x.addAnswer(8));
        ask("pass", () -> x.pass(1));
    }
}
