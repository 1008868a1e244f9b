import java.lang.reflect.Field;
import java.util.List;
import java.util.NoSuchElementException;

/** The desks, numbers and exceptions that the tests share. */
abstract class DeskTests {
    static final Class<IllegalArgumentException> ARGUMENT = IllegalArgumentException.class;
    static final Class<IllegalStateException> STATE = IllegalStateException.class;
    static final Class<NoSuchElementException> NONE = NoSuchElementException.class;
    static final Class<IndexOutOfBoundsException> INDEX = IndexOutOfBoundsException.class;
    static final Class<UnsupportedOperationException> UNSUPPORTED = UnsupportedOperationException.class;
    static final Class<ArithmeticException> ARITHMETIC = ArithmeticException.class;
    static final int LOW = Integer.MIN_VALUE;
    static final int HIGH = Integer.MAX_VALUE;
    static final int ALL_SKILLS = 63;

    final Checks c;

    DeskTests(Checks checks) {
        c = checks;
    }

    interface Ask {
        Object of(TicketWeaver desk, int number);
    }

    final void noTicket(TicketWeaver x, int beyond, Ask call) {
        for (int wrong : new int[] {-1, beyond, LOW, HIGH}) {
            c.dueThrow(INDEX, () -> call.of(x, wrong));
        }
    }

    /** A desk with agents on shift who have all skills. */
    static TicketWeaver deskWith(int agents) {
        TicketWeaver x = new TicketWeaver();
        for (int i = 0; i < agents; i++) {
            x.addAgent(ALL_SKILLS);
            x.setOnShift(i, true);
        }
        return x;
    }

    /** Mails of different subjects, of customer 0 and from the 21st on of customer 1: as many tickets of topic 0. */
    static TicketWeaver deskWith(int agents, int tickets) {
        TicketWeaver x = deskWith(agents);
        for (int i = 0; i < tickets; i++) {
            x.mail(i / 20, i % 20, -1, 0, 0);
        }
        return x;
    }

    /** Tickets 0 to 4, in the states 'o', 'h', 'a', 'c' and 'm', with the clock 7; agent 0 has ticket 0. */
    static TicketWeaver deskOfAllStates() {
        TicketWeaver x = new TicketWeaver();
        x.addAgent(1);
        x.setOnShift(0, true);
        for (int i = 0; i < 5; i++) {
            x.mail(0, i, -1, 0, 0);
        }
        x.pass(7);
        x.merge(4, 1);
        x.take(0);
        x.take(0);
        x.take(0);
        x.answer(2, -1);
        x.hold(1);
        x.giveBack(1);
        x.take(0);
        x.answer(3, -1);
        x.close(3);
        return x;
    }

    /**
     * Tickets 0 to 9: agent 0 has 0, 1 is held, 2 answered, 3 closed, 4 merged into 1, agent 1 has 5, 6 and 7, 8 and 9
     * wait; the open ones are breached. Agent 2 is off shift, 3 has all skills, 4 has the skill for topic 1 alone.
     */
    static TicketWeaver busyDesk() {
        TicketWeaver x = new TicketWeaver();
        int[] skills = {1, 1, 2, ALL_SKILLS, 2};
        for (int agent = 0; agent < skills.length; agent++) {
            x.addAgent(skills[agent]);
            x.setOnShift(agent, agent != 2);
        }
        x.addAnswer(5);
        x.addAnswer(6);
        for (int subject = 0; subject < 10; subject++) {
            x.mail(subject == 9 ? 1 : 0, subject, -1, 0, subject);
        }
        x.take(0);
        x.handOver(0, 3);
        x.handOver(0, 0);
        x.pass(20);
        x.hold(1);
        x.answer(x.take(1), 1);
        x.answer(x.take(1), 0);
        x.close(3);
        x.merge(4, 1);
        x.take(1);
        x.take(1);
        x.take(1);
        x.setClass(1, 1);
        x.setPromise(2, 31);
        x.pass(230);
        return x;
    }

    static void answerNext(TicketWeaver x, int prepared) {
        x.answer(x.take(0), prepared);
    }

    static void waitFor(TicketWeaver x, int minutes) {
        for (int left = minutes; left > 0; left -= 600) {
            x.pass(Math.min(left, 600));
        }
    }

    static void closeNextAndWait(TicketWeaver x, int minutes) {
        int ticket = x.take(0);
        x.answer(ticket, -1);
        x.close(ticket);
        waitFor(x, minutes);
    }

    /** Some rules hold in every state that calls can lead to: their tests reach inside and spoil it. */
    static Field fieldInside(Object of, String name) throws Exception {
        Field field = of.getClass().getDeclaredField(name);
        field.setAccessible(true);
        return field;
    }

    static Object inside(Object of, String name) throws Exception {
        return fieldInside(of, name).get(of);
    }

    static Object ticketInside(TicketWeaver x, int ticket) throws Exception {
        return ((List<?>) inside(x, "tickets")).get(ticket);
    }
}
