import java.util.LinkedHashMap;
import java.util.Map;
import java.util.function.Consumer;

/** A call that throws changes nothing: a busy desk shows the same before and behind each refused call. */
final class RefusalTests {
    private final Checks checks;

    RefusalTests(Checks checks) {
        this.checks = checks;
    }

    void run() {
        refusedCalls().forEach((name, call) -> checks.test(name + " changes nothing when it throws", () -> {
            TicketWeaver desk = busyDesk();
            String before = view(desk);
            Object outcome = Checks.outcome(() -> {
                call.accept(desk);
                return "answered";
            });
            checks.due(true, outcome instanceof Class<?>);
            checks.due(before, view(desk));
        }));
    }

    /** Tickets 0 to 5: taken, held, answered, closed, merged and waiting; agent 1 has 3 tickets. */
    private static TicketWeaver busyDesk() {
        TicketWeaver x = new TicketWeaver();
        x.addAgent(1);
        x.addAgent(1);
        x.addAgent(2);
        x.setOnShift(0, true);
        x.setOnShift(1, true);
        x.addAnswer(5);
        x.addAnswer(6);
        for (int subject = 0; subject < 10; subject++) {
            x.mail(subject == 9 ? 1 : 0, subject, -1, 0, subject);
        }
        x.take(0);
        x.pass(20);
        x.take(1);
        x.hold(1);
        x.giveBack(1);
        x.take(1);
        x.answer(2, 1);
        x.take(1);
        x.answer(3, 0);
        x.close(3);
        x.merge(4, 1);
        x.take(1);
        x.take(1);
        x.take(1);
        return x;
    }

    private static Map<String, Consumer<TicketWeaver>> refusedCalls() {
        Map<String, Consumer<TicketWeaver>> calls = new LinkedHashMap<>();
        calls.put("pass", x -> x.pass(601));
        calls.put("setClass", x -> x.setClass(0, 3));
        calls.put("setPromise", x -> x.setPromise(0, 10000));
        calls.put("mail with a wrong word", x -> x.mail(0, 2, -1, 0, 1024));
        calls.put("mail with a wrong answered one", x -> x.mail(0, 2, 10, 0, 1));
        calls.put("setTopic of an answered ticket", x -> x.setTopic(2, 3));
        calls.put("setTopic with a wrong topic", x -> x.setTopic(0, 6));
        calls.put("addAgent", x -> x.addAgent(64));
        calls.put("learn", x -> x.learn(0, 0));
        calls.put("setOnShift", x -> x.setOnShift(3, false));
        calls.put("take with 3 tickets", x -> x.take(1));
        calls.put("take off shift", x -> x.take(2));
        calls.put("handOver of nobody's", x -> x.handOver(9, 0));
        calls.put("handOver to an agent with 3 tickets", x -> x.handOver(0, 1));
        calls.put("handOver to an agent off shift", x -> x.handOver(0, 2));
        calls.put("giveBack", x -> x.giveBack(9));
        calls.put("hold", x -> x.hold(1));
        calls.put("resume", x -> x.resume(0));
        calls.put("answer of nobody's", x -> x.answer(9, 0));
        calls.put("answer with a wrong answer", x -> x.answer(0, 2));
        calls.put("close of an open ticket", x -> x.close(0));
        calls.put("close of a closed ticket", x -> x.close(3));
        calls.put("merge with itself", x -> x.merge(0, 0));
        calls.put("merge with an answered ticket", x -> x.merge(0, 2));
        calls.put("merge of different customers", x -> x.merge(0, 9));
        calls.put("addAnswer", x -> x.addAnswer(1024));
        calls.put("weight", x -> x.weight(0, 6));
        calls.put("suggestion", x -> x.suggestion(4));
        calls.put("suggestionByWords", x -> x.suggestionByWords(4));
        return calls;
    }

    private static String view(TicketWeaver x) {
        StringBuilder view = new StringBuilder();
        view.append(x.time()).append(' ').append(x.mails()).append(' ').append(x.breaches()).append(' ')
            .append(x.answers()).append(' ').append(x.minutesOpen()).append(' ').append(x.isSound()).append('\n');
        for (int i = 0; i < x.tickets(); i++) {
            int ticket = i;
            view.append(x.stateOf(i)).append(x.mailsOf(i)).append(' ').append(x.isBreached(i));
            view.append(' ').append(Checks.outcome(() -> x.clock(ticket)));
            view.append(' ').append(Checks.outcome(() -> x.agentOf(ticket)));
            view.append(' ').append(Checks.outcome(() -> x.suggestion(ticket))).append('\n');
        }
        for (int agent = 0; agent < 3; agent++) {
            int asked = agent;
            view.append(x.held(agent)).append(' ').append(x.waiting(agent)).append(' ')
                .append(Checks.outcome(() -> x.nextFor(asked))).append('\n');
        }
        return view.append(x.weight(0, 0)).append(x.weight(1, 0)).toString();
    }
}
