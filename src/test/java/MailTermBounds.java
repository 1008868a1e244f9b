/** The terms, sentence by sentence: time, customers, mails, tickets, joining and clocks. */
final class MailTermBounds extends Bounds {
    MailTermBounds(Checks checks, Document document) {
        super(checks, document);
    }

    @Override
    void run() {
        terms();
        timeAndCustomers();
        mails();
        tickets();
        joining();
        joiningBySubject();
        whatCounts();
        newTickets();
        beginningAnew();
        clocks();
        breaches();
    }

    private void timeAndCustomers() {
        sentence("Its calls are what customers write and what agents do; minutes pass, and all other calls ask.");
        test("asking changes nothing", () -> {
            TicketWeaver x = busyDesk();
            Life.viewOf(x);
            sameLife(busyDesk(), x);
        });
        sentence("Time is counted in minutes from 0.");
        answers("0", 0, () -> new TicketWeaver().time());
        answers("the first minute", 1, () -> {
            TicketWeaver x = new TicketWeaver();
            x.pass(1);
            return x.time();
        });
        sentence("There are the customers 0 to 7; each one has a class from 0 to 2, 0 at first.");
        test("each one", () -> {
            TicketWeaver x = new TicketWeaver();
            for (int customer = 0; customer < 8; customer++) {
                c.due(0, x.setClass(customer, customer % 3));
            }
            for (int customer = 0; customer < 8; customer++) {
                c.due(customer % 3, x.setClass(customer, 0));
            }
        });
        sentence("Each class has a promise, a number of minutes: 240, 120 and 30 at first.");
        test("each one", () -> {
            TicketWeaver x = deskWith(0, 1);
            c.due(240, x.leftOf(0));
            x.setClass(0, 1);
            c.due(120, x.leftOf(0));
            x.setClass(0, 2);
            c.due(30, x.leftOf(0));
        });
    }

    private void mails() {
        sentence("At most 80 mails come, numbered from 0.");
        test("0 to 79, and no 81st", () -> {
            TicketWeaver x = new TicketWeaver();
            for (int i = 0; i < 80; i++) {
                x.mail(0, i % 20, -1, 0, 0);
                c.due(i % 20, x.ticketOf(i));
            }
            c.dueThrow(STATE, () -> x.mail(0, 0, -1, 0, 0));
            c.due(80, x.mails());
        });
        sentence("A mail has a customer, a subject from 0 to 19, a topic from 0 to 5, and words, a number in which the"
            + " bit k, from 0 to 9, is 1 if it has the word k.");
        test("each word", () -> {
            for (int word = 0; word < 10; word++) {
                TicketWeaver x = new TicketWeaver();
                x.addAnswer(1023 - (1 << word));
                x.addAnswer(1 << word);
                x.mail(0, 0, -1, 0, 1 << word);
                c.due(1, x.suggestion(0));
                c.due(1, x.suggestionByWords(0));
            }
        });
        test("each subject, and each topic", () -> {
            TicketWeaver x = new TicketWeaver();
            for (int subject = 0; subject < 20; subject++) {
                c.due(subject, x.mail(0, subject, -1, subject % 6, 0));
            }
            for (int ticket = 0; ticket < 20; ticket++) {
                c.due(ticket % 6, x.setTopic(ticket, 0));
            }
        });
        sentence("It is an answer to an earlier mail, or to none.");
        answers("to none", 1, () -> deskWith(0, 1).mail(0, 9, -1, 0, 0));
        answers("to the one just before", 0, () -> deskWith(0, 1).mail(0, 9, 0, 0, 0));
        refused("to itself", NONE, () -> deskWith(0, 1), x -> x.mail(0, 9, 1, 0, 0));
    }

    private void tickets() {
        sentence("At most 40 tickets are made, numbered from 0.");
        test("0 to 39, and no 41st", () -> {
            TicketWeaver x = new TicketWeaver();
            for (int i = 0; i < 40; i++) {
                c.due(i, x.mail(i % 8, i / 8, -1, 0, 0));
            }
            c.dueThrow(STATE, () -> x.mail(0, 19, -1, 0, 0));
            c.due(40, x.tickets());
        });
        sentence("A ticket has a customer, a subject, a topic, mails in the order in which they came, and a state: it"
            + " is open, 'o', held, 'h', answered, 'a', closed, 'c', or merged, 'm', into another one.");
        test("the order of 80 mails, two tickets in turn", () -> {
            TicketWeaver x = new TicketWeaver();
            for (int i = 0; i < 80; i++) {
                x.mail(0, i % 2, -1, 0, 0);
            }
            for (int i = 0; i < 80; i++) {
                c.due(i, x.mailAt(i % 2, i / 2));
            }
        });
        test("each state", () -> {
            TicketWeaver x = deskOfAllStates();
            for (int ticket = 0; ticket < 5; ticket++) {
                c.due("ohacm".charAt(ticket), x.stateOf(ticket));
            }
        });
        sentence("Its words are those of all its mails.");
        test("none, the first mail's, the last one's", () -> {
            TicketWeaver x = new TicketWeaver();
            x.addAnswer(1);
            x.addAnswer(0b1000000010);
            x.mail(0, 0, -1, 0, 0);
            c.dueThrow(NONE, () -> x.suggestion(0));
            x.mail(0, 0, -1, 0, 1);
            c.due(0, x.suggestion(0));
            x.mail(0, 0, -1, 0, 0b1000000010);
            c.due(1, x.suggestion(0));
            x.mail(0, 0, -1, 0, 0);
            c.due(1, x.suggestion(0));
        });
        test("a word that two mails have counts once", () -> {
            TicketWeaver x = new TicketWeaver();
            x.addAnswer(1);
            x.addAnswer(2 | 4);
            x.mail(0, 0, -1, 0, 1 | 2 | 4);
            x.mail(0, 0, -1, 0, 1);
            x.mail(0, 0, -1, 0, 1);
            c.due(1, x.suggestion(0));
            c.due(1, x.suggestionByWords(0));
        });
        test("words from before a new beginning", () -> {
            TicketWeaver x = deskWith(1);
            x.addAnswer(1);
            x.mail(0, 0, -1, 0, 1);
            closeNextAndWait(x, 1440);
            x.mail(0, 0, -1, 0, 0);
            c.due(0, x.suggestion(0));
        });
        sentence("The ticket of a mail is the one that has it; behind a merging this is the one into which it was"
            + " merged.");
        test("before it, behind it, and behind the next one", () -> {
            TicketWeaver x = deskWith(0, 3);
            c.due(0, x.ticketOf(0));
            x.merge(0, 2);
            c.due(2, x.ticketOf(0));
            x.merge(2, 1);
            c.due(1, x.ticketOf(0));
            c.due(1, x.ticketOf(1));
            c.due(1, x.ticketOf(2));
        });
    }

    private void joining() {
        sentence("A mail that comes is joined to a ticket that is already there, if one of these can be had, the first"
            + " one counting: the ticket of the mail that it answers, if the customer is the same; of the tickets of"
            + " the same customer with the same subject, the one that has the mail with the greatest number.");
        answers("the answered mail's before the subject's", 0, () -> deskWith(0, 2).mail(0, 1, 0, 0, 0));
        answers("another customer's answered mail: the subject's", 1, () -> deskWith(0, 40).mail(0, 1, 20, 0, 0));
        answers("another customer's answered mail, and no subject", 2, () -> deskWith(0, 2).mail(1, 0, 0, 0, 0));
        answers("no answered mail: the subject's", 1, () -> deskWith(0, 2).mail(0, 1, -1, 0, 0));
        answers("the subject of another customer", 2, () -> deskWith(0, 2).mail(1, 1, -1, 0, 0));
        answers("neither", 2, () -> deskWith(0, 2).mail(0, 2, -1, 0, 0));
        test("the subject is the ticket's, not that of a later mail", () -> {
            TicketWeaver x = deskWith(0, 1);
            x.mail(0, 9, 0, 0, 0);
            c.due(1, x.mail(0, 9, -1, 0, 0));
        });
        test("the answered mail's ticket is the one into which it was merged", () -> {
            TicketWeaver x = deskWith(0, 3);
            x.merge(0, 1);
            x.merge(1, 2);
            c.due(2, x.mail(0, 0, 0, 0, 0));
        });
        test("the answered mail's was closed too long ago: the subject's", () -> {
            TicketWeaver x = deskWith(1, 2);
            x.hold(1);
            closeNextAndWait(x, 1441);
            c.due(1, x.mail(0, 1, 0, 0, 0));
        });
    }

    private void joiningBySubject() {
        test("of several that count, the earlier one, if it has the later mail", () -> {
            TicketWeaver x = twoOfOneSubject();
            x.mail(0, 9, 0, 0, 0);
            c.due(0, x.mail(0, 1, -1, 0, 0));
        });
        test("of several that count, the later one, if it has the later mail", () -> {
            TicketWeaver x = twoOfOneSubject();
            c.due(1, x.mail(0, 1, -1, 0, 0));
        });
        test("behind one that does not count any more", () -> {
            TicketWeaver x = deskWith(1, 1);
            closeNextAndWait(x, 1441);
            x.mail(0, 0, -1, 0, 0);
            c.due(1, x.mail(0, 0, -1, 0, 0));
        });
    }

    /** No calls lead to two tickets that count with the same customer and subject. */
    private static TicketWeaver twoOfOneSubject() throws Exception {
        TicketWeaver x = deskWith(0, 2);
        Object first = ticketInside(x, 0);
        fieldInside(first, "subject").setInt(first, 1);
        return x;
    }

    private void whatCounts() {
        sentence("Only tickets count that are open, held, answered, or were closed at most 1440 minutes ago; merged"
            + " ones do not count.");
        for (int i = 0; i < 4; i++) {
            int ticket = i;
            String state = "'" + "ohac".charAt(i) + "'";
            answers(state + " by its subject", ticket, () -> deskOfAllStates().mail(0, ticket, -1, 0, 0));
            answers(state + " by an answered mail", ticket, () -> deskOfAllStates().mail(0, 9, ticket, 0, 0));
        }
        answers("merged, by its subject", 5, () -> deskOfAllStates().mail(0, 4, -1, 0, 0));
        answers("merged, by an answered mail: the other one", 1, () -> deskOfAllStates().mail(0, 9, 4, 0, 0));
        answers("closed 1440 minutes ago, by its subject", 0, () -> closedFor(1440).mail(0, 0, -1, 0, 0));
        answers("closed 1440 minutes ago, by an answered mail", 0, () -> closedFor(1440).mail(0, 9, 0, 0, 0));
        answers("closed 1441 minutes ago, by its subject", 1, () -> closedFor(1441).mail(0, 0, -1, 0, 0));
        answers("closed 1441 minutes ago, by an answered mail", 1, () -> closedFor(1441).mail(0, 9, 0, 0, 0));
        test("answered long ago", () -> {
            TicketWeaver x = deskWith(1, 1);
            answerNext(x, -1);
            waitFor(x, 1441);
            c.due(0, x.mail(0, 0, -1, 0, 0));
        });
        test("held long ago", () -> {
            TicketWeaver x = deskWith(1, 1);
            x.hold(0);
            waitFor(x, 9999);
            c.due(0, x.mail(0, 0, -1, 0, 0));
        });
        test("the second closing counts, not the first", () -> {
            TicketWeaver x = closedFor(1440);
            x.mail(0, 0, -1, 0, 0);
            closeNextAndWait(x, 1440);
            c.due(0, x.mail(0, 0, -1, 0, 0));
        });
        test("one that was merged into a closed one, 1440 and 1441 minutes ago", () -> {
            TicketWeaver x = deskWith(1, 2);
            x.merge(0, 1);
            closeNextAndWait(x, 1440);
            c.due(1, x.mail(0, 9, 0, 0, 0));
            closeNextAndWait(x, 1441);
            c.due(2, x.mail(0, 9, 0, 0, 0));
        });
    }

    private static TicketWeaver closedFor(int minutes) {
        TicketWeaver x = deskWith(1, 1);
        closeNextAndWait(x, minutes);
        return x;
    }

    private void newTickets() {
        sentence("If there is none, a ticket is made for it, with its customer, its subject and its topic.");
        test("the greatest of each", () -> {
            TicketWeaver x = deskWith(0, 1);
            x.setClass(7, 2);
            c.due(1, x.mail(7, 19, -1, 5, 0));
            c.due(30, x.leftOf(1));
            c.due(1, x.mail(7, 19, -1, 0, 0));
            c.due(5, x.setTopic(1, 0));
        });
        test("open, nobody's, with the clock 0", () -> {
            TicketWeaver x = deskWith(1);
            x.pass(600);
            x.mail(0, 0, -1, 0, 0);
            c.due('o', x.stateOf(0));
            c.due(0, x.clock(0));
            c.due(false, x.isBreached(0));
            c.dueThrow(NONE, () -> x.agentOf(0));
            c.due(1, x.waiting(0));
        });
        test("a mail that joins leaves the topic alone", () -> {
            TicketWeaver x = deskWith(0, 1);
            x.mail(0, 0, -1, 5, 0);
            c.due(0, x.setTopic(0, 0));
        });
    }

    private void beginningAnew() {
        sentence("A ticket that gets a mail while it is answered or closed is open then, and its clock begins anew.");
        test("answered", () -> begunAnew(false, 300));
        test("closed", () -> begunAnew(true, 300));
        test("closed just now, at the clock 0", () -> begunAnew(true, 0));
        test("an open one keeps its clock and its agent", () -> {
            TicketWeaver x = deskOfAllStates();
            x.mail(0, 0, -1, 0, 0);
            c.due(7, x.clock(0));
            c.due(0, x.agentOf(0));
        });
        test("a held one keeps its clock and is held", () -> {
            TicketWeaver x = deskOfAllStates();
            x.mail(0, 1, -1, 0, 0);
            c.due(7, x.clock(1));
            c.due('h', x.stateOf(1));
        });
    }

    private void begunAnew(boolean isClosed, int minutes) {
        TicketWeaver x = deskWith(1, 1);
        if (minutes > 0) {
            x.pass(minutes);
        }
        answerNext(x, -1);
        if (isClosed) {
            x.close(0);
        }
        x.mail(0, 0, -1, 0, 0);
        c.due('o', x.stateOf(0));
        c.due(0, x.clock(0));
        c.due(240, x.leftOf(0));
        c.due(false, x.isBreached(0));
        c.dueThrow(NONE, () -> x.agentOf(0));
        c.due(0, x.nextFor(0));
        x.pass(1);
        c.due(1, x.clock(0));
    }

    private void clocks() {
        sentence("The clock of a ticket begins with 0, and counts each minute that passes while it is open; it keeps"
            + " what it has counted while the ticket is held.");
        test("0, the first minute, held, and on", () -> {
            TicketWeaver x = deskWith(0, 1);
            c.due(0, x.clock(0));
            x.pass(1);
            c.due(1, x.clock(0));
            x.hold(0);
            x.pass(600);
            c.due(1, x.clock(0));
            x.resume(0);
            c.due(1, x.clock(0));
            x.pass(1);
            c.due(2, x.clock(0));
        });
        test("an agent's ticket counts, too", () -> {
            TicketWeaver x = deskWith(1, 1);
            x.take(0);
            x.pass(600);
            c.due(600, x.clock(0));
        });
        sentence("What is left of the promise is the promise of the class that its customer has now, minus its clock;"
            + " this can be less than 0.");
        test("0, and less than 0", () -> {
            TicketWeaver x = deskWith(0, 1);
            x.pass(240);
            c.due(0, x.leftOf(0));
            x.pass(1);
            c.due(-1, x.leftOf(0));
        });
        test("the class and the promise that are now", () -> {
            TicketWeaver x = deskWith(0, 1);
            x.pass(100);
            x.setClass(0, 2);
            c.due(-70, x.leftOf(0));
            x.setPromise(2, 9999);
            c.due(9899, x.leftOf(0));
            x.setPromise(2, 1);
            c.due(-99, x.leftOf(0));
        });
    }

    private void breaches() {
        sentence("A ticket is breached when, behind a minute in which it was open, its clock is greater than the"
            + " promise; it counts as breached until its clock begins anew, and each time that it becomes breached is"
            + " counted.");
        test("a clock as great as the promise, and one minute more", () -> {
            TicketWeaver x = deskWith(0, 1);
            c.due(0, x.pass(240));
            c.due(false, x.isBreached(0));
            c.due(1, x.pass(1));
            c.due(true, x.isBreached(0));
        });
        test("a held one is not, however small its promise becomes", () -> {
            TicketWeaver x = deskWith(0, 1);
            x.pass(100);
            x.hold(0);
            x.setPromise(0, 1);
            c.due(0, x.pass(600));
            c.due(false, x.isBreached(0));
            x.resume(0);
            c.due(false, x.isBreached(0));
            c.due(1, x.pass(1));
        });
        test("a smaller promise needs a minute", () -> {
            TicketWeaver x = deskWith(0, 1);
            x.pass(100);
            x.setPromise(0, 99);
            c.due(false, x.isBreached(0));
            x.setPromise(0, 101);
            c.due(0, x.pass(1));
            x.setPromise(0, 101);
            c.due(1, x.pass(1));
        });
        test("a greater class needs a minute", () -> {
            TicketWeaver x = deskWith(0, 1);
            x.pass(30);
            x.setClass(0, 2);
            c.due(false, x.isBreached(0));
            c.due(1, x.pass(1));
        });
        test("it stays so with a greater promise, and becomes so no second time", () -> {
            TicketWeaver x = deskWith(0, 1);
            x.pass(241);
            x.setPromise(0, 9999);
            c.due(0, x.pass(1));
            c.due(true, x.isBreached(0));
            x.setPromise(0, 1);
            c.due(0, x.pass(1));
            c.due(1, x.breaches());
        });
        test("until its clock begins anew, and then a second time", () -> {
            TicketWeaver x = deskWith(1, 1);
            x.pass(241);
            answerNext(x, -1);
            x.mail(0, 0, -1, 0, 0);
            c.due(false, x.isBreached(0));
            c.due(0, x.pass(240));
            c.due(1, x.pass(1));
            c.due(2, x.breaches());
        });
    }
}
