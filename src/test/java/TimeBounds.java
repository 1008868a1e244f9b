/** Promises 1 to 5: a new desk, minutes, classes and promises. */
final class TimeBounds extends Bounds {
    TimeBounds(Checks checks, Document document) {
        super(checks, document);
    }

    @Override
    void run() {
        newDesk();
        pass();
        time();
        setClass();
        setPromise();
    }

    private void newDesk() {
        promise(1);
        sentence("Creates a desk without mails, tickets, agents and answers, at the time 0.");
        answers("no mails", 0, () -> new TicketWeaver().mails());
        answers("no tickets", 0, () -> new TicketWeaver().tickets());
        answers("the first agent is 0", 0, () -> new TicketWeaver().addAgent(1));
        answers("the first answer is 0", 0, () -> new TicketWeaver().addAnswer(1));
        answers("the time 0", 0, () -> new TicketWeaver().time());
        answers("it is sound", true, () -> new TicketWeaver().isSound());
        test("nothing is there to be asked", () -> {
            TicketWeaver x = new TicketWeaver();
            c.dueThrow(NONE, () -> x.ticketOf(0));
            c.dueThrow(INDEX, () -> x.stateOf(0));
            c.dueThrow(INDEX, () -> x.held(0));
            c.dueThrow(NONE, () -> x.weight(0, 0));
        });
        test("nothing was counted", () -> {
            TicketWeaver x = new TicketWeaver();
            c.due(0, x.breaches());
            c.due(0, x.answers());
            c.due(0L, x.minutesOpen());
            c.dueThrow(ARITHMETIC, () -> x.keptShare());
            c.dueThrow(ARITHMETIC, () -> x.meanClock());
        });
        test("another desk changes nothing in it", () -> {
            TicketWeaver x = new TicketWeaver();
            busyDesk().setPromise(0, 1);
            sameLife(new TicketWeaver(), x);
        });
    }

    private void pass() {
        promise(2);
        sentence("Lets minutes pass, one after the other.");
        test("a promise that breaks on the way", () -> {
            TicketWeaver x = deskWith(0, 1);
            c.due(1, x.pass(600));
            c.due(600, x.clock(0));
        });
        test("promises of three classes within one call", () -> {
            TicketWeaver x = new TicketWeaver();
            for (int customer = 0; customer < 3; customer++) {
                x.mail(customer, 0, -1, 0, 0);
                x.setClass(customer, customer);
            }
            c.due(1, x.pass(31));
            c.due(2, x.pass(210));
        });
        answers("no ticket", 0, () -> new TicketWeaver().pass(600));
        sentence("`minutes`: the number of minutes, 1 to 600");
        test("1 is the least", () -> passed(1));
        test("600 is the greatest", () -> passed(600));
        sentence("Returns how many times a ticket became breached.");
        answers("a clock as great as the promise", 0, () -> deskWith(0, 1).pass(240));
        answers("one minute more", 1, () -> deskWith(0, 1).pass(241));
        answers("40 tickets", 40, () -> deskWith(0, 40).pass(241));
        test("none twice", () -> {
            TicketWeaver x = deskWith(0, 2);
            c.due(2, x.pass(300));
            c.due(0, x.pass(300));
        });
        test("the least promise, 1", () -> {
            TicketWeaver x = deskWith(0, 1);
            x.setPromise(0, 1);
            c.due(0, x.pass(1));
            c.due(1, x.pass(1));
        });
        test("the greatest promise, 9999", () -> {
            TicketWeaver x = deskWith(0, 1);
            x.setPromise(0, 9999);
            waitFor(x, 9998);
            c.due(0, x.pass(1));
            c.due(1, x.pass(1));
        });
        test("only open tickets", () -> {
            TicketWeaver x = deskOfAllStates();
            c.due(1, x.pass(600));
            c.due(true, x.isBreached(0));
        });
        sentence("Throws `IllegalArgumentException` if the number is out of range");
        refusedAround("number", 1, 600, ARGUMENT, TicketWeaver::pass);
        refused("-1", ARGUMENT, x -> x.pass(-1));
    }

    private void passed(int minutes) {
        TicketWeaver x = deskWith(0, 2);
        x.hold(1);
        x.pass(minutes);
        c.due(minutes, x.time());
        c.due(minutes, x.clock(0));
        c.due(0, x.clock(1));
        c.due((long) minutes, x.minutesOpen());
    }

    private void time() {
        promise(3);
        sentence("Returns the time.");
        answers("0 at first", 0, () -> new TicketWeaver().time());
        sentence("Returns the number of minutes that have passed.");
        test("the least and the greatest step", () -> {
            TicketWeaver x = new TicketWeaver();
            x.pass(1);
            c.due(1, x.time());
            x.pass(600);
            c.due(601, x.time());
        });
        test("as many as 512 calls can let pass", () -> {
            TicketWeaver x = new TicketWeaver();
            for (int i = 1; i < 512; i++) {
                x.pass(600);
            }
            c.due(306600, x.time());
        });
        answers("no other call lets a minute pass", 250, () -> busyDesk().time());
    }

    private void setClass() {
        promise(4);
        sentence("Sets the class of a customer.");
        test("the tickets that are there follow", () -> {
            TicketWeaver x = deskWith(0, 1);
            x.setClass(0, 2);
            c.due(30, x.leftOf(0));
        });
        test("a customer without tickets", () -> {
            TicketWeaver x = new TicketWeaver();
            x.setClass(4, 1);
            x.mail(4, 0, -1, 0, 0);
            c.due(120, x.leftOf(0));
        });
        sentence("`customer`: the customer, 0 to 7");
        test("0 is the first", () -> onlyThisCustomer(0));
        test("7 is the last", () -> onlyThisCustomer(7));
        sentence("`level`: the class, 0 to 2");
        answers("0 is the least", 240, () -> leftInClass(0));
        answers("2 is the greatest", 30, () -> leftInClass(2));
        sentence("Returns the class before.");
        answers("0 at first", 0, () -> new TicketWeaver().setClass(3, 2));
        test("the same once more", () -> {
            TicketWeaver x = new TicketWeaver();
            x.setClass(3, 2);
            c.due(2, x.setClass(3, 2));
            c.due(2, x.setClass(3, 0));
        });
        sentence("Throws `IllegalArgumentException` if there is no such customer or class");
        refusedAround("customer", 0, 7, ARGUMENT, (x, customer) -> x.setClass(customer, 2));
        refusedAround("class", 0, 2, ARGUMENT, (x, level) -> x.setClass(1, level));
        refused("neither customer nor class", ARGUMENT, x -> x.setClass(8, 3));
    }

    private void onlyThisCustomer(int customer) {
        TicketWeaver x = new TicketWeaver();
        x.setClass(customer, 2);
        for (int i = 0; i < 8; i++) {
            c.due(i == customer ? 2 : 0, x.setClass(i, 1));
        }
    }

    private static int leftInClass(int level) {
        TicketWeaver x = deskWith(0, 1);
        x.setClass(0, 1);
        x.setClass(0, level);
        return x.leftOf(0);
    }

    private void setPromise() {
        promise(5);
        sentence("Sets the promise of a class.");
        test("the tickets that are there follow, those of other classes do not", () -> {
            TicketWeaver x = deskWith(0, 1);
            x.mail(1, 0, -1, 0, 0);
            x.setClass(1, 1);
            x.setPromise(1, 500);
            c.due(240, x.leftOf(0));
            c.due(500, x.leftOf(1));
        });
        sentence("`level`: the class, 0 to 2");
        test("0 is the least", () -> onlyThisClass(0));
        test("2 is the greatest", () -> onlyThisClass(2));
        sentence("`minutes`: the promise, 1 to 9999");
        answers("1 is the least", 1, () -> leftWithPromise(1));
        answers("9999 is the greatest", 9999, () -> leftWithPromise(9999));
        sentence("Returns the promise before.");
        test("the first ones", () -> {
            TicketWeaver x = new TicketWeaver();
            c.due(240, x.setPromise(0, 1));
            c.due(120, x.setPromise(1, 1));
            c.due(30, x.setPromise(2, 1));
        });
        test("the same once more", () -> {
            TicketWeaver x = new TicketWeaver();
            x.setPromise(0, 9999);
            c.due(9999, x.setPromise(0, 9999));
            c.due(9999, x.setPromise(0, 1));
        });
        sentence("Throws `IllegalArgumentException` if there is no such class, or the promise is out of range");
        refusedAround("class", 0, 2, ARGUMENT, (x, level) -> x.setPromise(level, 77));
        refusedAround("promise", 1, 9999, ARGUMENT, (x, minutes) -> x.setPromise(0, minutes));
        refused("neither class nor promise", ARGUMENT, x -> x.setPromise(3, 0));
    }

    private void onlyThisClass(int level) {
        int[] promises = {240, 120, 30};
        TicketWeaver x = new TicketWeaver();
        x.setPromise(level, 77);
        for (int i = 0; i < 3; i++) {
            c.due(i == level ? 77 : promises[i], x.setPromise(i, 1));
        }
    }

    private static int leftWithPromise(int minutes) {
        TicketWeaver x = deskWith(0, 1);
        x.setPromise(0, minutes);
        return x.leftOf(0);
    }
}
