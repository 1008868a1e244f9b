/** For each promise of the document: ordinary inputs, the edges that it names, and wrong inputs. */
final class PromiseTests extends DeskTests {
    PromiseTests(Checks checks) {
        super(checks);
    }

    void run() {
        c.test("promise 1", this::newObject);
        c.test("promise 2", this::pass);
        c.test("promise 3", this::time);
        c.test("promise 4", this::setClass);
        c.test("promise 5", this::setPromise);
        c.test("promise 6, joining by the answered mail", this::mailByAnswered);
        c.test("promise 6, joining by the subject", this::mailBySubject);
        c.test("promise 6, joining a closed ticket", this::mailToClosed);
        c.test("promise 6, beginning anew", this::mailBeginsAnew);
        c.test("promise 6, wrong numbers", this::mailWrong);
        c.test("promise 6, 80 mails", this::mailEighty);
        c.test("promise 6, 40 tickets", this::mailForty);
        c.test("promise 7", this::ticketOf);
        c.test("promise 8", this::mails);
        c.test("promise 9", this::mailsOf);
        c.test("promise 10", this::mailAt);
        c.test("promise 11", this::tickets);
        c.test("promise 12", this::stateOf);
        c.test("promise 13", this::mergedInto);
        c.test("promise 14", this::setTopic);
        c.test("promise 15", this::clock);
        c.test("promise 16", this::leftOf);
        c.test("promise 17", this::isBreached);
        c.test("promise 18", this::addAgent);
        c.test("promise 19", this::learn);
        c.test("promise 20", this::setOnShift);
        c.test("promise 21", this::held);
        c.test("promise 22", this::agentOf);
        c.test("promise 23", () -> next(TicketWeaver::nextFor));
        c.test("promise 23, the order when classes and promises change", () -> nextChanges(TicketWeaver::nextFor));
        c.test("promise 24", () -> next(TicketWeaver::nextByTickets));
        c.test("promise 24, the order when classes and promises change",
            () -> nextChanges(TicketWeaver::nextByTickets));
        c.test("promise 25", this::waiting);
        c.test("promise 26", this::take);
        c.test("promise 27", this::handOver);
        c.test("promise 28", this::giveBack);
        c.test("promise 29", this::hold);
        c.test("promise 30", this::resume);
        c.test("promise 31", this::answer);
        c.test("promise 32", this::close);
        c.test("promise 33", this::merge);
        c.test("promise 33, clocks and breaches", this::mergeClocks);
        c.test("promise 33, wrong numbers", this::mergeWrong);
        c.test("promise 34", this::addAnswer);
        c.test("promise 35", this::weight);
        c.test("promise 35, from 0 to 9", this::weightEdges);
        c.test("promise 36", () -> suggestion(TicketWeaver::suggestion));
        c.test("promise 37", () -> suggestion(TicketWeaver::suggestionByWords));
        c.test("promise 38", this::breaches);
        c.test("promise 39", this::answers);
        c.test("promise 40", this::minutesOpen);
        c.test("promise 41", this::keptShare);
        c.test("promise 42", this::meanClock);
        c.test("promise 43", this::isSound);
    }

    private void newObject() {
        TicketWeaver x = new TicketWeaver();
        c.due(0, x.time());
        c.due(0, x.mails());
        c.due(0, x.tickets());
        c.due(0, x.breaches());
        c.due(0, x.answers());
        c.due(0L, x.minutesOpen());
        c.dueThrow(INDEX, () -> x.held(0));
        c.dueThrow(INDEX, () -> x.stateOf(0));
        c.dueThrow(NONE, () -> x.weight(0, 0));
        c.due(0, x.setClass(7, 1));
        c.due(240, x.setPromise(0, 1));
        c.due(120, x.setPromise(1, 1));
        c.due(30, x.setPromise(2, 1));
        c.due(0, new TicketWeaver().setClass(7, 0));
        c.due(30, new TicketWeaver().setPromise(2, 1));
    }

    private void pass() {
        TicketWeaver x = deskWith(1, 3);
        x.hold(2);
        c.due(0, x.pass(240));
        c.due(2, x.pass(1));
        c.due(0, x.pass(600));
        c.due(241 + 600, x.clock(0));
        c.due(0, x.clock(2));
        x.mail(1, 0, -1, 0, 0);
        x.setClass(1, 2);
        c.due(0, x.pass(30));
        c.due(1, x.pass(1));
        c.dueThrow(ARGUMENT, () -> x.pass(0));
        c.dueThrow(ARGUMENT, () -> x.pass(601));
        c.dueThrow(ARGUMENT, () -> x.pass(LOW));
        c.dueThrow(ARGUMENT, () -> x.pass(HIGH));
        c.due(241 + 600 + 31, x.clock(1));
        c.due(872, x.time());
    }

    private void time() {
        TicketWeaver x = new TicketWeaver();
        c.due(0, x.time());
        x.pass(1);
        c.due(1, x.time());
        x.pass(600);
        c.due(601, x.time());
        c.dueThrow(ARGUMENT, () -> x.pass(0));
        c.due(601, x.time());
    }

    private void setClass() {
        TicketWeaver x = deskWith(0, 1);
        c.due(0, x.setClass(0, 2));
        c.due(30, x.leftOf(0));
        c.due(2, x.setClass(0, 1));
        c.due(120, x.leftOf(0));
        c.due(1, x.setClass(0, 1));
        c.due(0, x.setClass(7, 2));
        c.dueThrow(ARGUMENT, () -> x.setClass(-1, 0));
        c.dueThrow(ARGUMENT, () -> x.setClass(8, 0));
        c.dueThrow(ARGUMENT, () -> x.setClass(0, -1));
        c.dueThrow(ARGUMENT, () -> x.setClass(0, 3));
        c.dueThrow(ARGUMENT, () -> x.setClass(HIGH, LOW));
        c.due(1, x.setClass(0, 0));
        c.due(2, x.setClass(7, 0));
    }

    private void setPromise() {
        TicketWeaver x = deskWith(0, 1);
        c.due(240, x.setPromise(0, 1));
        c.due(1, x.leftOf(0));
        c.due(1, x.setPromise(0, 9999));
        c.due(9999, x.leftOf(0));
        c.due(120, x.setPromise(1, 77));
        c.due(30, x.setPromise(2, 78));
        c.dueThrow(ARGUMENT, () -> x.setPromise(-1, 5));
        c.dueThrow(ARGUMENT, () -> x.setPromise(3, 5));
        c.dueThrow(ARGUMENT, () -> x.setPromise(0, 0));
        c.dueThrow(ARGUMENT, () -> x.setPromise(0, 10000));
        c.dueThrow(ARGUMENT, () -> x.setPromise(0, LOW));
        c.due(9999, x.setPromise(0, 240));
        c.due(77, x.setPromise(1, 1));
        c.due(78, x.setPromise(2, 1));
    }

    private void mailByAnswered() {
        TicketWeaver x = new TicketWeaver();
        c.due(0, x.mail(0, 1, -1, 2, 0));
        c.due(1, x.mail(0, 2, -1, 2, 0));
        // The answered mail counts before the subject.
        c.due(0, x.mail(0, 2, 0, 2, 0));
        // It does not if the customer is another one.
        c.due(2, x.mail(1, 1, 0, 2, 0));
        c.due(0, x.mail(0, 9, 2, 2, 0));
        // The ticket keeps its own subject.
        c.due(3, x.mail(0, 9, -1, 2, 0));
        c.due(0, x.mail(0, 1, -1, 2, 0));
        c.due(4, x.mailsOf(0));
        // Behind a merging it is the other ticket.
        x.merge(0, 1);
        c.due(1, x.mail(0, 1, 0, 2, 0));
        c.due(4, x.mail(0, 1, -1, 2, 0));
    }

    private void mailBySubject() {
        TicketWeaver x = deskWith(1, 2);
        c.due(0, x.mail(0, 0, -1, 0, 0));
        c.due(2, x.mail(1, 0, -1, 0, 0));
        c.due(1, x.mail(0, 1, -1, 5, 0));
        c.due(2, x.mail(1, 0, 0, 0, 0));
        // A held ticket gets the mail and stays held; an agent's ticket stays the agent's.
        x.hold(0);
        c.due(0, x.mail(0, 0, -1, 0, 0));
        c.due('h', x.stateOf(0));
        c.due(1, x.take(0));
        x.pass(5);
        c.due(1, x.mail(0, 1, -1, 0, 0));
        c.due(0, x.agentOf(1));
        c.due(5, x.clock(1));
        // An answered one gets it, a merged one does not.
        x.answer(1, -1);
        c.due(1, x.mail(0, 1, -1, 0, 0));
        x.merge(0, 1);
        c.due(3, x.mail(0, 0, -1, 0, 0));
        c.due(4, x.tickets());
    }

    private void mailToClosed() {
        TicketWeaver x = deskWith(1, 1);
        closeNextAndWait(x, 1440);
        c.due(0, x.mail(0, 0, -1, 0, 0));
        c.due('o', x.stateOf(0));
        closeNextAndWait(x, 1440);
        c.due(0, x.mail(0, 9, 0, 0, 0));
        closeNextAndWait(x, 1441);
        c.due(1, x.mail(0, 9, 0, 0, 0));
        c.due(2, x.mail(0, 0, 0, 0, 0));
        c.due(2, x.mail(0, 0, -1, 0, 0));
        // The answered mail's ticket does not count any more: the subject's one does.
        c.due(2, x.mail(0, 0, 0, 0, 0));
        c.due('c', x.stateOf(0));
        // What counts is the closing, not the answering.
        TicketWeaver y = deskWith(1, 1);
        answerNext(y, -1);
        waitFor(y, 2000);
        y.close(0);
        waitFor(y, 1440);
        c.due(0, y.mail(0, 0, -1, 0, 0));
    }

    private void mailBeginsAnew() {
        TicketWeaver x = deskWith(1, 1);
        x.pass(300);
        answerNext(x, -1);
        x.mail(0, 0, -1, 0, 0);
        c.due('o', x.stateOf(0));
        c.due(0, x.clock(0));
        c.due(false, x.isBreached(0));
        c.due(1, x.waiting(0));
        c.dueThrow(NONE, () -> x.agentOf(0));
        c.due(0, x.pass(240));
        c.due(1, x.pass(1));
        // A mail to an open or held ticket leaves its clock alone.
        x.mail(0, 0, -1, 0, 0);
        c.due(241, x.clock(0));
        c.due(true, x.isBreached(0));
        x.hold(0);
        x.mail(0, 0, -1, 0, 0);
        c.due(241, x.clock(0));
        // The ticket keeps its topic.
        x.resume(0);
        answerNext(x, -1);
        x.close(0);
        x.mail(0, 0, -1, 3, 0);
        c.due(0, x.clock(0));
        c.due(0, x.setTopic(0, 1));
    }

    private void mailWrong() {
        TicketWeaver x = deskWith(0, 1);
        for (int wrong : new int[] {-1, 8, LOW, HIGH}) {
            c.dueThrow(ARGUMENT, () -> x.mail(wrong, 0, -1, 0, 0));
        }
        for (int wrong : new int[] {-1, 20, LOW, HIGH}) {
            c.dueThrow(ARGUMENT, () -> x.mail(0, wrong, -1, 0, 0));
        }
        for (int wrong : new int[] {-1, 6, LOW, HIGH}) {
            c.dueThrow(ARGUMENT, () -> x.mail(0, 0, -1, wrong, 0));
        }
        for (int wrong : new int[] {-1, 1024, LOW, HIGH}) {
            c.dueThrow(ARGUMENT, () -> x.mail(0, 0, -1, 0, wrong));
        }
        for (int wrong : new int[] {-2, 1, LOW, HIGH}) {
            c.dueThrow(NONE, () -> x.mail(0, 0, wrong, 0, 0));
            c.dueThrow(ARGUMENT, () -> x.mail(0, 20, wrong, 0, 0));
        }
        c.due(1, x.mails());
        c.due(1, x.tickets());
        c.due(1, x.mail(7, 19, 0, 5, 1023));
    }

    private void mailEighty() {
        TicketWeaver x = deskWith(1, 1);
        for (int i = 1; i < 80; i++) {
            c.due(0, x.mail(0, 0, i - 1, 0, 0));
        }
        answerNext(x, -1);
        c.dueThrow(STATE, () -> x.mail(0, 0, -1, 0, 0));
        c.dueThrow(STATE, () -> x.mail(1, 0, -1, 0, 0));
        c.dueThrow(NONE, () -> x.mail(0, 0, 80, 0, 0));
        c.dueThrow(ARGUMENT, () -> x.mail(8, 0, 80, 0, 0));
        c.due('a', x.stateOf(0));
        c.due(80, x.mails());
        c.due(79, x.mailAt(0, 79));
    }

    private void mailForty() {
        TicketWeaver x = new TicketWeaver();
        for (int i = 0; i < 40; i++) {
            c.due(i, x.mail(i / 20, i % 20, -1, 0, 0));
        }
        c.dueThrow(STATE, () -> x.mail(2, 0, -1, 0, 0));
        c.dueThrow(STATE, () -> x.mail(2, 0, 0, 0, 0));
        c.dueThrow(NONE, () -> x.mail(2, 0, 40, 0, 0));
        c.due(40, x.tickets());
        c.due(40, x.mails());
        c.due(39, x.mail(1, 19, -1, 0, 0));
        c.due(0, x.mail(0, 19, 0, 0, 0));
        c.due(42, x.mails());
    }

    private void ticketOf() {
        TicketWeaver x = deskWith(0, 3);
        x.mail(0, 0, -1, 0, 0);
        c.due(0, x.ticketOf(0));
        c.due(2, x.ticketOf(2));
        c.due(0, x.ticketOf(3));
        x.merge(0, 1);
        c.due(1, x.ticketOf(0));
        c.due(1, x.ticketOf(3));
        x.merge(1, 2);
        c.due(2, x.ticketOf(0));
        c.due(2, x.ticketOf(1));
        for (int wrong : new int[] {-1, 4, LOW, HIGH}) {
            c.dueThrow(NONE, () -> x.ticketOf(wrong));
        }
    }

    private void mails() {
        TicketWeaver x = deskWith(0, 2);
        c.due(2, x.mails());
        x.mail(0, 0, -1, 0, 0);
        c.due(3, x.mails());
        x.merge(0, 1);
        c.due(3, x.mails());
    }

    private void mailsOf() {
        TicketWeaver x = deskWith(0, 2);
        x.mail(0, 1, -1, 0, 0);
        c.due(1, x.mailsOf(0));
        c.due(2, x.mailsOf(1));
        x.merge(1, 0);
        c.due(3, x.mailsOf(0));
        c.due(0, x.mailsOf(1));
        noTicket(x, 2, TicketWeaver::mailsOf);
    }

    private void mailAt() {
        TicketWeaver x = deskWith(0, 2);
        x.mail(0, 0, -1, 0, 0);
        x.mail(0, 1, -1, 0, 0);
        x.mail(0, 0, -1, 0, 0);
        c.due(0, x.mailAt(0, 0));
        c.due(2, x.mailAt(0, 1));
        c.due(3, x.mailAt(1, 1));
        c.dueThrow(NONE, () -> x.mailAt(0, 3));
        c.dueThrow(NONE, () -> x.mailAt(0, -1));
        c.dueThrow(NONE, () -> x.mailAt(0, HIGH));
        c.dueThrow(NONE, () -> x.mailAt(0, LOW));
        noTicket(x, 2, (desk, ticket) -> desk.mailAt(ticket, -1));
        x.merge(0, 1);
        for (int i = 0; i < 5; i++) {
            c.due(i, x.mailAt(1, i));
        }
        c.dueThrow(NONE, () -> x.mailAt(1, 5));
        c.dueThrow(NONE, () -> x.mailAt(0, 0));
    }

    private void tickets() {
        TicketWeaver x = deskWith(1, 3);
        c.due(3, x.tickets());
        x.mail(0, 0, -1, 0, 0);
        c.due(3, x.tickets());
        x.merge(0, 1);
        answerNext(x, -1);
        x.close(1);
        c.due(3, x.tickets());
    }

    private void stateOf() {
        TicketWeaver x = deskWith(1, 2);
        c.due('o', x.stateOf(0));
        x.hold(0);
        c.due('h', x.stateOf(0));
        x.resume(0);
        c.due('o', x.stateOf(0));
        answerNext(x, -1);
        c.due('a', x.stateOf(0));
        x.close(0);
        c.due('c', x.stateOf(0));
        x.mail(0, 0, -1, 0, 0);
        c.due('o', x.stateOf(0));
        x.merge(0, 1);
        c.due('m', x.stateOf(0));
        c.due('o', x.stateOf(1));
        noTicket(x, 2, TicketWeaver::stateOf);
    }

    private void mergedInto() {
        TicketWeaver x = deskWith(0, 4);
        x.merge(0, 1);
        c.due(1, x.mergedInto(0));
        x.merge(1, 2);
        x.merge(2, 3);
        c.due(3, x.mergedInto(0));
        c.due(3, x.mergedInto(1));
        c.due(3, x.mergedInto(2));
        c.dueThrow(NONE, () -> x.mergedInto(3));
        noTicket(x, 4, TicketWeaver::mergedInto);
    }

    private void setTopic() {
        TicketWeaver x = deskWith(0, 2);
        x.addAgent(0b000011);
        x.setOnShift(0, true);
        x.take(0);
        c.due(0, x.setTopic(0, 1));
        c.due(0, x.agentOf(0));
        c.due(1, x.setTopic(0, 5));
        c.dueThrow(NONE, () -> x.agentOf(0));
        c.due(0, x.held(0));
        c.due(1, x.waiting(0));
        c.due(5, x.setTopic(0, 1));
        c.due(2, x.waiting(0));
        c.due(0, x.nextFor(0));
        x.take(0);
        x.hold(0);
        c.due(1, x.setTopic(0, 2));
        c.due(0, x.held(0));
        c.due('h', x.stateOf(0));
        c.due(1, x.waiting(0));
        c.dueThrow(ARGUMENT, () -> x.setTopic(0, 6));
        c.dueThrow(ARGUMENT, () -> x.setTopic(0, -1));
        c.due(2, x.setTopic(0, 2));
        // A waiting ticket waits for its new topic only.
        c.due(1, x.nextFor(0));
        c.due(0, x.setTopic(1, 3));
        c.due(0, x.waiting(0));
        c.dueThrow(NONE, () -> x.nextFor(0));
        c.due(3, x.setTopic(1, 0));
        c.due(1, x.waiting(0));
        x.merge(0, 1);
        c.dueThrow(STATE, () -> x.setTopic(0, 1));
        c.dueThrow(ARGUMENT, () -> x.setTopic(0, 6));
        answerNext(x, -1);
        c.dueThrow(STATE, () -> x.setTopic(1, 1));
        x.close(1);
        c.dueThrow(STATE, () -> x.setTopic(1, 1));
        noTicket(x, 2, (desk, ticket) -> desk.setTopic(ticket, 6));
    }

    private void openOrHeldOnly(Ask call) {
        TicketWeaver x = deskOfAllStates();
        c.due("ohacm", "" + x.stateOf(0) + x.stateOf(1) + x.stateOf(2) + x.stateOf(3) + x.stateOf(4));
        call.of(x, 0);
        call.of(x, 1);
        for (int i = 2; i < 5; i++) {
            int ticket = i;
            c.dueThrow(STATE, () -> call.of(x, ticket));
        }
        noTicket(x, 5, call);
    }

    private void clock() {
        openOrHeldOnly(TicketWeaver::clock);
        TicketWeaver x = deskWith(0, 2);
        c.due(0, x.clock(0));
        x.pass(10);
        c.due(10, x.clock(0));
        x.hold(0);
        x.pass(5);
        c.due(10, x.clock(0));
        c.due(15, x.clock(1));
        x.resume(0);
        x.pass(1);
        c.due(11, x.clock(0));
        x.mail(1, 0, -1, 0, 0);
        c.due(0, x.clock(2));
    }

    private void leftOf() {
        openOrHeldOnly(TicketWeaver::leftOf);
        TicketWeaver x = deskWith(0, 1);
        c.due(240, x.leftOf(0));
        x.pass(241);
        c.due(-1, x.leftOf(0));
        x.hold(0);
        x.pass(9);
        c.due(-1, x.leftOf(0));
        x.setClass(0, 1);
        c.due(-121, x.leftOf(0));
        x.setPromise(1, 9999);
        c.due(9758, x.leftOf(0));
    }

    private void isBreached() {
        TicketWeaver x = deskWith(1, 1);
        c.due(false, x.isBreached(0));
        x.pass(240);
        c.due(false, x.isBreached(0));
        // A changed promise alone breaks nothing: a minute must pass while the ticket is open.
        x.setPromise(0, 5);
        c.due(false, x.isBreached(0));
        x.hold(0);
        c.due(0, x.pass(1));
        c.due(false, x.isBreached(0));
        x.resume(0);
        c.due(1, x.pass(1));
        c.due(true, x.isBreached(0));
        // It stays breached when there is time left again, and when it is held.
        x.setPromise(0, 9999);
        x.pass(1);
        x.hold(0);
        c.due(true, x.isBreached(0));
        x.resume(0);
        answerNext(x, -1);
        c.due(false, x.isBreached(0));
        x.close(0);
        c.due(false, x.isBreached(0));
        x.mail(0, 0, -1, 0, 0);
        c.due(false, x.isBreached(0));
        TicketWeaver y = deskWith(0, 2);
        y.pass(241);
        y.merge(0, 1);
        c.due(false, y.isBreached(0));
        c.due(true, y.isBreached(1));
        noTicket(y, 2, (desk, ticket) -> desk.isBreached(ticket) ? 1 : 0);
    }

    private void addAgent() {
        TicketWeaver x = new TicketWeaver();
        c.due(0, x.addAgent(0));
        c.due(1, x.addAgent(ALL_SKILLS));
        c.due(false, x.setOnShift(0, false));
        c.dueThrow(ARGUMENT, () -> x.addAgent(-1));
        c.dueThrow(ARGUMENT, () -> x.addAgent(64));
        c.dueThrow(ARGUMENT, () -> x.addAgent(HIGH));
        for (int i = 2; i < 6; i++) {
            c.due(i, x.addAgent(1));
        }
        c.dueThrow(STATE, () -> x.addAgent(1));
        c.dueThrow(ARGUMENT, () -> x.addAgent(64));
        c.dueThrow(INDEX, () -> x.held(6));
        c.due(0, x.held(5));
    }

    private void learn() {
        TicketWeaver x = deskWith(0, 1);
        x.addAgent(0b100010);
        x.setOnShift(0, true);
        c.dueThrow(NONE, () -> x.nextFor(0));
        c.due(3, x.learn(0, 0));
        c.due(0, x.nextFor(0));
        c.dueThrow(UNSUPPORTED, () -> x.learn(0, 0));
        c.dueThrow(UNSUPPORTED, () -> x.learn(0, 5));
        c.dueThrow(ARGUMENT, () -> x.learn(0, 6));
        c.dueThrow(ARGUMENT, () -> x.learn(0, -1));
        c.dueThrow(ARGUMENT, () -> x.learn(0, 32));
        c.due(4, x.learn(0, 4));
        noTicket(x, 1, (desk, agent) -> desk.learn(agent, 6));
    }

    private void setOnShift() {
        TicketWeaver x = deskWith(0, 3);
        x.addAgent(1);
        x.addAgent(1);
        c.due(false, x.setOnShift(0, false));
        c.due(false, x.setOnShift(0, true));
        c.due(true, x.setOnShift(0, true));
        x.setOnShift(1, true);
        x.take(0);
        x.take(0);
        x.take(1);
        x.hold(1);
        c.due(true, x.setOnShift(0, true));
        c.due(2, x.held(0));
        c.due(true, x.setOnShift(0, false));
        c.due(0, x.held(0));
        c.dueThrow(NONE, () -> x.agentOf(0));
        c.dueThrow(NONE, () -> x.agentOf(1));
        c.due(1, x.agentOf(2));
        c.due('h', x.stateOf(1));
        c.due(1, x.waiting(1));
        c.due(0, x.take(1));
        c.due(false, x.setOnShift(0, false));
        noTicket(x, 2, (desk, agent) -> desk.setOnShift(agent, true) ? 1 : 0);
    }

    private void held() {
        TicketWeaver x = deskWith(2, 5);
        c.due(0, x.held(0));
        x.take(0);
        x.take(0);
        x.take(0);
        c.due(3, x.held(0));
        c.due(0, x.held(1));
        x.hold(0);
        c.due(3, x.held(0));
        x.answer(1, -1);
        c.due(2, x.held(0));
        x.handOver(2, 1);
        c.due(1, x.held(0));
        c.due(1, x.held(1));
        x.merge(0, 2);
        c.due(0, x.held(0));
        x.giveBack(2);
        c.due(0, x.held(1));
        noTicket(x, 2, TicketWeaver::held);
    }

    private void agentOf() {
        TicketWeaver x = deskWith(2, 2);
        c.dueThrow(NONE, () -> x.agentOf(0));
        x.take(1);
        c.due(1, x.agentOf(0));
        x.handOver(0, 0);
        c.due(0, x.agentOf(0));
        x.hold(0);
        c.due(0, x.agentOf(0));
        x.resume(0);
        x.answer(0, -1);
        c.dueThrow(NONE, () -> x.agentOf(0));
        x.mail(0, 0, -1, 0, 0);
        c.dueThrow(NONE, () -> x.agentOf(0));
        noTicket(x, 2, TicketWeaver::agentOf);
    }

    private void next(Ask next) {
        TicketWeaver x = new TicketWeaver();
        x.addAgent(0b000101);
        c.dueThrow(NONE, () -> next.of(x, 0));
        x.mail(0, 0, -1, 1, 0);
        x.mail(0, 1, -1, 2, 0);
        x.mail(0, 2, -1, 0, 0);
        c.dueThrow(NONE, () -> next.of(x, 0));
        x.setOnShift(0, true);
        // The lowest number, over the queues of two topics.
        c.due(1, next.of(x, 0));
        x.hold(1);
        c.due(2, next.of(x, 0));
        x.pass(10);
        x.resume(1);
        c.due(2, next.of(x, 0));
        x.take(0);
        c.due(1, next.of(x, 0));
        x.giveBack(2);
        c.due(2, next.of(x, 0));
        // Having 3 tickets keeps nobody from asking.
        x.mail(0, 3, -1, 0, 0);
        x.mail(0, 4, -1, 0, 0);
        x.take(0);
        x.take(0);
        x.take(0);
        c.due(4, next.of(x, 0));
        x.hold(4);
        c.dueThrow(NONE, () -> next.of(x, 0));
        noTicket(x, 1, next);
    }

    private void nextChanges(Ask next) {
        TicketWeaver x = deskWith(1);
        for (int customer = 0; customer < 4; customer++) {
            x.mail(customer, 0, -1, customer % 2, 0);
        }
        c.due(0, next.of(x, 0));
        x.setClass(2, 1);
        c.due(2, next.of(x, 0));
        x.setClass(3, 2);
        c.due(3, next.of(x, 0));
        x.setPromise(2, 1000);
        c.due(2, next.of(x, 0));
        // The same is left of both: the greater class counts, and of one class the lower number.
        x.setPromise(1, 240);
        x.setPromise(2, 240);
        c.due(3, next.of(x, 0));
        x.setClass(1, 2);
        c.due(1, next.of(x, 0));
        x.setClass(3, 0);
        x.setClass(1, 0);
        c.due(2, next.of(x, 0));
        x.setClass(2, 0);
        c.due(0, next.of(x, 0));
        // The greater clock counts, of one topic and of two.
        x.hold(0);
        x.hold(1);
        x.pass(1);
        x.resume(0);
        x.resume(1);
        c.due(2, next.of(x, 0));
        x.hold(2);
        c.due(3, next.of(x, 0));
        x.mail(0, 5, -1, 0, 0);
        x.merge(4, 0);
        c.due(3, next.of(x, 0));
        x.setTopic(3, 0);
        c.due(3, next.of(x, 0));
        // Two classes in the queue of one topic.
        TicketWeaver y = deskWith(1, 1);
        y.mail(1, 0, -1, 0, 0);
        y.setClass(1, 2);
        c.due(1, next.of(y, 0));
        y.setPromise(2, 241);
        c.due(0, next.of(y, 0));
        y.setPromise(0, 242);
        c.due(1, next.of(y, 0));
    }

    private void waiting() {
        TicketWeaver x = new TicketWeaver();
        x.addAgent(0b000011);
        for (int i = 0; i < 6; i++) {
            x.mail(0, i, -1, i % 3, 0);
        }
        c.due(0, x.waiting(0));
        x.setOnShift(0, true);
        c.due(4, x.waiting(0));
        x.hold(0);
        c.due(3, x.waiting(0));
        x.take(0);
        c.due(2, x.waiting(0));
        x.learn(0, 2);
        c.due(4, x.waiting(0));
        x.merge(2, 5);
        c.due(3, x.waiting(0));
        x.merge(5, 0);
        c.due(2, x.waiting(0));
        x.resume(0);
        c.due(3, x.waiting(0));
        x.setOnShift(0, false);
        c.due(0, x.waiting(0));
        x.setOnShift(0, true);
        c.due(4, x.waiting(0));
        noTicket(x, 1, TicketWeaver::waiting);
    }

    private void take() {
        TicketWeaver x = deskWith(0, 4);
        x.addAgent(1);
        c.dueThrow(STATE, () -> x.take(0));
        x.setOnShift(0, true);
        c.due(0, x.take(0));
        c.due(0, x.agentOf(0));
        c.due('o', x.stateOf(0));
        x.hold(0);
        c.due(1, x.take(0));
        c.due(2, x.take(0));
        c.dueThrow(STATE, () -> x.take(0));
        c.due(3, x.held(0));
        x.answer(1, -1);
        c.due(3, x.take(0));
        x.giveBack(0);
        c.dueThrow(NONE, () -> x.take(0));
        c.due(2, x.held(0));
        x.setOnShift(0, false);
        x.hold(2);
        x.hold(3);
        c.dueThrow(STATE, () -> x.take(0));
        noTicket(x, 1, TicketWeaver::take);
    }

    private void handOver() {
        TicketWeaver x = deskWith(2, 5);
        x.addAgent(0b000010);
        x.addAgent(ALL_SKILLS);
        x.setOnShift(2, true);
        c.dueThrow(STATE, () -> x.handOver(0, 1));
        x.take(0);
        c.dueThrow(STATE, () -> x.handOver(0, 0));
        c.due(1, x.handOver(0, 1));
        c.due(1, x.agentOf(0));
        c.due(0, x.held(0));
        c.due(1, x.held(1));
        c.due(2, x.handOver(0, 0));
        // No skill, and off shift.
        c.dueThrow(UNSUPPORTED, () -> x.handOver(0, 2));
        c.dueThrow(UNSUPPORTED, () -> x.handOver(0, 3));
        x.hold(0);
        c.due(3, x.handOver(0, 1));
        c.due('h', x.stateOf(0));
        x.take(1);
        x.take(1);
        c.due(3, x.take(0));
        c.dueThrow(STATE, () -> x.handOver(3, 1));
        c.due(0, x.agentOf(3));
        // The state counts before the skill.
        x.setTopic(4, 1);
        x.take(2);
        x.setTopic(4, 1);
        c.dueThrow(STATE, () -> x.handOver(4, 1));
        c.dueThrow(STATE, () -> x.handOver(4, 2));
        x.resume(0);
        x.answer(0, -1);
        c.dueThrow(STATE, () -> x.handOver(0, 3));
        c.dueThrow(INDEX, () -> x.handOver(3, 4));
        c.dueThrow(INDEX, () -> x.handOver(3, -1));
        noTicket(x, 5, (desk, ticket) -> desk.handOver(ticket, 1));
        // How often it was handed over is not forgotten when the ticket begins anew.
        x.mail(0, 0, -1, 0, 0);
        c.due(0, x.take(0));
        c.due(4, x.handOver(0, 1));
    }

    private void giveBack() {
        TicketWeaver x = deskWith(1, 3);
        c.dueThrow(STATE, () -> x.giveBack(0));
        x.take(0);
        x.take(0);
        x.take(0);
        c.due(0, x.waiting(0));
        c.due(2, x.giveBack(1));
        c.dueThrow(NONE, () -> x.agentOf(1));
        c.due(1, x.waiting(0));
        c.due(1, x.nextFor(0));
        x.hold(0);
        c.due(1, x.giveBack(0));
        c.due('h', x.stateOf(0));
        c.due(1, x.waiting(0));
        x.answer(2, -1);
        c.dueThrow(STATE, () -> x.giveBack(2));
        c.dueThrow(STATE, () -> x.giveBack(1));
        noTicket(x, 3, TicketWeaver::giveBack);
    }

    private void hold() {
        TicketWeaver x = deskOfAllStates();
        c.due(7, x.hold(0));
        c.due('h', x.stateOf(0));
        c.due(0, x.agentOf(0));
        for (int i = 0; i < 5; i++) {
            int ticket = i;
            c.dueThrow(STATE, () -> x.hold(ticket));
        }
        x.pass(100);
        c.due(7, x.clock(0));
        noTicket(x, 5, TicketWeaver::hold);
        TicketWeaver y = deskWith(1, 1);
        c.due(0, y.hold(0));
        c.due(0, y.waiting(0));
    }

    private void resume() {
        TicketWeaver x = deskOfAllStates();
        x.pass(3);
        for (int i = 0; i < 5; i++) {
            int ticket = i;
            if (ticket != 1) {
                c.dueThrow(STATE, () -> x.resume(ticket));
            }
        }
        c.due(0, x.waiting(0));
        c.due(7, x.resume(1));
        c.due('o', x.stateOf(1));
        c.due(1, x.waiting(0));
        c.dueThrow(STATE, () -> x.resume(1));
        noTicket(x, 5, TicketWeaver::resume);
        TicketWeaver y = deskWith(1, 1);
        y.take(0);
        y.hold(0);
        c.due(0, y.resume(0));
        c.due(0, y.agentOf(0));
        c.due(0, y.waiting(0));
    }

    private void answer() {
        TicketWeaver x = deskWith(1, 3);
        x.addAnswer(1);
        x.pass(12);
        c.dueThrow(STATE, () -> x.answer(0, -1));
        x.take(0);
        c.dueThrow(NONE, () -> x.answer(0, 1));
        c.dueThrow(NONE, () -> x.answer(0, -2));
        c.dueThrow(NONE, () -> x.answer(0, HIGH));
        c.dueThrow(STATE, () -> x.answer(1, 1));
        c.due(0, x.answers());
        c.due(12, x.answer(0, 0));
        c.due('a', x.stateOf(0));
        c.dueThrow(NONE, () -> x.agentOf(0));
        c.due(0, x.held(0));
        c.due(2, x.waiting(0));
        c.dueThrow(STATE, () -> x.answer(0, 0));
        x.take(0);
        x.hold(1);
        c.dueThrow(STATE, () -> x.answer(1, 0));
        x.pass(8);
        x.resume(1);
        c.due(12, x.answer(1, -1));
        c.due(2, x.answers());
        noTicket(x, 3, (desk, ticket) -> desk.answer(ticket, 1));
    }

    private void close() {
        TicketWeaver x = deskWith(1, 3);
        c.dueThrow(STATE, () -> x.close(0));
        answerNext(x, -1);
        answerNext(x, -1);
        c.due(1, x.close(0));
        c.due('c', x.stateOf(0));
        c.dueThrow(STATE, () -> x.close(0));
        c.due(2, x.close(1));
        x.mail(0, 0, -1, 0, 0);
        answerNext(x, -1);
        c.due(2, x.close(0));
        x.hold(2);
        c.dueThrow(STATE, () -> x.close(2));
        noTicket(x, 3, TicketWeaver::close);
    }

    private void merge() {
        TicketWeaver x = deskWith(2, 4);
        x.mail(0, 0, -1, 0, 0b0011);
        x.mail(0, 1, -1, 0, 0b0100);
        x.take(0);
        x.take(1);
        c.due(4, x.merge(0, 1));
        c.due('m', x.stateOf(0));
        c.due(0, x.held(0));
        c.dueThrow(NONE, () -> x.agentOf(0));
        c.due(1, x.agentOf(1));
        c.due(0, x.mailAt(1, 0));
        c.due(1, x.mailAt(1, 1));
        c.due(4, x.mailAt(1, 2));
        c.due(5, x.mailAt(1, 3));
        // The words go along.
        x.addAnswer(0b0010);
        c.due(0, x.suggestion(1));
        x.addAnswer(0b0110);
        c.due(1, x.suggestion(1));
        c.dueThrow(NONE, () -> x.suggestion(0));
        c.dueThrow(NONE, () -> x.suggestionByWords(0));
        // A held one can be merged, and be the other one; the other one stays what it is.
        x.hold(2);
        c.due(5, x.merge(1, 2));
        c.due('h', x.stateOf(2));
        c.dueThrow(NONE, () -> x.agentOf(2));
        c.due(0, x.held(1));
        c.due(6, x.merge(2, 3));
        c.due('o', x.stateOf(3));
        c.due(3, x.nextFor(0));
        c.due(1, x.waiting(0));
        c.due(true, x.isSound());
    }

    private void mergeClocks() {
        TicketWeaver x = deskWith(0, 4);
        x.hold(0);
        x.hold(1);
        x.pass(300);
        x.merge(2, 0);
        c.due(300, x.clock(0));
        c.due(true, x.isBreached(0));
        c.due(2, x.breaches());
        x.merge(1, 3);
        c.due(300, x.clock(3));
        c.due(true, x.isBreached(3));
        x.resume(0);
        c.due(0, x.pass(600));
        c.due(2, x.breaches());
        // The greater clock alone breaks nothing.
        TicketWeaver y = deskWith(0, 2);
        y.hold(0);
        y.pass(50);
        y.setPromise(0, 10);
        y.merge(1, 0);
        c.due(50, y.clock(0));
        c.due(false, y.isBreached(0));
        y.resume(0);
        c.due(1, y.pass(1));
        // The other one's place in the queue goes with its clock.
        TicketWeaver z = deskWith(1, 3);
        z.hold(2);
        z.pass(9);
        z.resume(2);
        z.mail(1, 0, -1, 0, 0);
        z.setClass(1, 0);
        z.merge(0, 2);
        c.due(1, z.nextFor(0));
        z.hold(1);
        c.due(2, z.nextFor(0));
        c.due(2, z.nextByTickets(0));
    }

    private void mergeWrong() {
        TicketWeaver x = deskOfAllStates();
        x.mail(1, 0, -1, 0, 0);
        for (int i = 2; i < 5; i++) {
            int ticket = i;
            c.dueThrow(STATE, () -> x.merge(ticket, 0));
            c.dueThrow(STATE, () -> x.merge(0, ticket));
            c.dueThrow(STATE, () -> x.merge(5, ticket));
            c.dueThrow(ARGUMENT, () -> x.merge(ticket, ticket));
        }
        c.dueThrow(ARGUMENT, () -> x.merge(0, 0));
        c.dueThrow(UNSUPPORTED, () -> x.merge(0, 5));
        c.dueThrow(UNSUPPORTED, () -> x.merge(5, 1));
        noTicket(x, 6, (desk, ticket) -> desk.merge(ticket, ticket));
        noTicket(x, 6, (desk, ticket) -> desk.merge(ticket, 0));
        noTicket(x, 6, (desk, ticket) -> desk.merge(0, ticket));
        c.due(1, x.mailsOf(0));
        c.due(3, x.merge(0, 1));
    }

    private void addAnswer() {
        TicketWeaver x = deskWith(0, 1);
        x.mail(0, 0, -1, 0, 1);
        c.due(0, x.addAnswer(0));
        c.dueThrow(NONE, () -> x.suggestion(0));
        c.due(1, x.addAnswer(1023));
        c.due(1, x.suggestion(0));
        c.dueThrow(ARGUMENT, () -> x.addAnswer(-1));
        c.dueThrow(ARGUMENT, () -> x.addAnswer(1024));
        c.dueThrow(ARGUMENT, () -> x.addAnswer(HIGH));
        for (int i = 2; i < 8; i++) {
            c.due(i, x.addAnswer(i));
        }
        c.dueThrow(STATE, () -> x.addAnswer(1));
        c.dueThrow(ARGUMENT, () -> x.addAnswer(1024));
        c.due(0, x.weight(7, 5));
        c.dueThrow(NONE, () -> x.weight(8, 0));
    }

    private void weight() {
        TicketWeaver x = deskWith(1, 2);
        x.addAnswer(1);
        x.addAnswer(1);
        x.setTopic(0, 4);
        answerNext(x, 1);
        c.due(0, x.weight(1, 4));
        x.close(0);
        c.due(1, x.weight(1, 4));
        c.due(0, x.weight(0, 4));
        c.due(0, x.weight(1, 0));
        // The mail behind the closing takes nothing back.
        x.mail(0, 0, -1, 0, 0);
        c.due(1, x.weight(1, 4));
        // Another text teaches nothing, and the answer before it is forgotten.
        x.hold(1);
        answerNext(x, -1);
        x.close(0);
        c.due(1, x.weight(1, 4));
        x.mail(0, 0, -1, 0, 0);
        answerNext(x, 1);
        x.mail(0, 0, -1, 0, 0);
        c.due(0, x.weight(1, 4));
        x.mail(0, 0, -1, 0, 0);
        c.due(0, x.weight(1, 4));
        answerNext(x, -1);
        x.close(0);
        c.due(0, x.weight(1, 4));
        for (int wrong : new int[] {-1, 2, LOW, HIGH}) {
            c.dueThrow(NONE, () -> x.weight(wrong, 0));
            c.dueThrow(NONE, () -> x.weight(wrong, 6));
        }
        for (int wrong : new int[] {-1, 6, LOW, HIGH}) {
            c.dueThrow(ARGUMENT, () -> x.weight(0, wrong));
        }
    }

    private void weightEdges() {
        TicketWeaver x = deskWith(1, 1);
        x.addAnswer(1);
        answerNext(x, 0);
        x.mail(0, 0, -1, 0, 0);
        c.due(0, x.weight(0, 0));
        for (int i = 1; i <= 11; i++) {
            answerNext(x, 0);
            x.close(0);
            c.due(Math.min(i, 9), x.weight(0, 0));
            x.mail(0, 0, -1, 0, 0);
        }
        answerNext(x, 0);
        x.mail(0, 0, -1, 0, 0);
        c.due(8, x.weight(0, 0));
    }

    private void suggestion(Ask suggestion) {
        TicketWeaver x = deskWith(1);
        x.mail(0, 0, -1, 2, 0b0000000111);
        c.dueThrow(NONE, () -> suggestion.of(x, 0));
        x.addAnswer(0b1111111000);
        c.dueThrow(NONE, () -> suggestion.of(x, 0));
        x.addAnswer(0b0000000001);
        c.due(1, suggestion.of(x, 0));
        // Of several with the same score, the one with the lowest number.
        x.addAnswer(0b1000000010);
        c.due(1, suggestion.of(x, 0));
        x.addAnswer(0b0000000110);
        c.due(3, suggestion.of(x, 0));
        // A weight decides among as many words, but only for its topic, and without a word it counts nothing.
        x.mail(0, 1, -1, 2, 0b0000000011);
        c.due(1, suggestion.of(x, 1));
        teach(x, 2, 9);
        c.due(2, suggestion.of(x, 1));
        c.due(3, suggestion.of(x, 0));
        x.setTopic(1, 0);
        c.due(1, suggestion.of(x, 1));
        teach(x, 0, 1);
        x.mail(1, 3, -1, 2, 0);
        c.dueThrow(NONE, () -> suggestion.of(x, 2));
        // The words of all mails count, and any state will do.
        x.mail(1, 3, -1, 0, 0b1111111000);
        c.due(0, suggestion.of(x, 2));
        x.hold(2);
        c.due(0, suggestion.of(x, 2));
        noTicket(x, 3, suggestion);
        x.take(0);
        x.answer(0, -1);
        c.due(3, suggestion.of(x, 0));
        x.close(0);
        c.due(3, suggestion.of(x, 0));
    }

    /** Ticket 0, of topic 2, is answered and closed so often; it is open again behind that. */
    private static void teach(TicketWeaver x, int prepared, int times) {
        for (int i = 0; i < times; i++) {
            x.setClass(0, 2);
            x.take(0);
            x.answer(0, prepared);
            x.close(0);
            x.mail(0, 0, -1, 0, 0);
        }
    }

    private void breaches() {
        TicketWeaver x = deskWith(1, 2);
        x.pass(240);
        c.due(0, x.breaches());
        x.pass(1);
        c.due(2, x.breaches());
        x.pass(100);
        c.due(2, x.breaches());
        // Behind a new beginning it counts once more.
        answerNext(x, -1);
        x.mail(0, 0, -1, 0, 0);
        x.pass(241);
        c.due(3, x.breaches());
        // Broken, mended and broken again without a new beginning: once.
        x.setPromise(0, 9999);
        x.pass(1);
        x.setPromise(0, 1);
        x.pass(1);
        c.due(3, x.breaches());
    }

    private void answers() {
        TicketWeaver x = deskWith(1, 1);
        x.addAnswer(0);
        c.due(0, x.answers());
        answerNext(x, -1);
        c.due(1, x.answers());
        x.close(0);
        x.mail(0, 0, -1, 0, 0);
        c.due(1, x.answers());
        answerNext(x, 0);
        c.due(2, x.answers());
    }

    private void minutesOpen() {
        TicketWeaver x = deskWith(1, 3);
        x.hold(2);
        x.pass(10);
        c.due(20L, x.minutesOpen());
        answerNext(x, -1);
        x.pass(10);
        c.due(30L, x.minutesOpen());
        x.mail(0, 0, -1, 0, 0);
        c.due(30L, x.minutesOpen());
        x.merge(0, 1);
        x.pass(5);
        c.due(35L, x.minutesOpen());
        x.pass(600);
        c.due(635L, x.minutesOpen());
    }

    private void keptShare() {
        TicketWeaver x = deskWith(1, 3);
        c.dueThrow(ARITHMETIC, () -> x.keptShare());
        answerNext(x, -1);
        c.due(1.0f, x.keptShare());
        x.pass(241);
        answerNext(x, -1);
        c.due(0.5f, x.keptShare());
        // Breached is breached, whatever is left of the promise now.
        x.setPromise(0, 9999);
        answerNext(x, -1);
        c.due(1.0f / 3.0f, x.keptShare());
        x.mail(0, 0, -1, 0, 0);
        answerNext(x, -1);
        c.due(0.5f, x.keptShare());
        x.mail(0, 0, -1, 0, 0);
        answerNext(x, -1);
        c.due(3.0f / 5.0f, x.keptShare());
        x.close(0);
        c.due(3.0f / 5.0f, x.keptShare());
    }

    private void meanClock() {
        TicketWeaver x = deskWith(1, 3);
        c.dueThrow(ARITHMETIC, () -> x.meanClock());
        x.pass(7);
        answerNext(x, -1);
        c.due(7.0, x.meanClock());
        x.pass(4);
        answerNext(x, -1);
        c.due(9.0, x.meanClock());
        x.mail(0, 0, -1, 0, 0);
        x.hold(2);
        answerNext(x, -1);
        c.due(18.0 / 3.0, x.meanClock());
        x.mail(0, 0, -1, 0, 0);
        x.pass(2);
        answerNext(x, -1);
        c.due(5.0, x.meanClock());
        x.mail(0, 0, -1, 0, 0);
        x.pass(3);
        answerNext(x, -1);
        c.due(23.0 / 5.0, x.meanClock());
    }

    private void isSound() {
        TicketWeaver x = new TicketWeaver();
        c.due(true, x.isSound());
        TicketWeaver y = deskOfAllStates();
        c.due(true, y.isSound());
        y.mail(0, 4, -1, 0, 0);
        y.mail(0, 3, -1, 0, 0);
        y.setClass(0, 2);
        y.merge(0, 1);
        c.due(true, y.isSound());
    }
}
