/** Promises 6 to 13: mails, and what tickets they are in. */
final class MailBounds extends Bounds {
    MailBounds(Checks checks, Document document) {
        super(checks, document);
    }

    @Override
    void run() {
        mailParameters();
        mailOutOfRange();
        mailToUnknown();
        mailWithoutRoom();
        ticketOf();
        mails();
        mailsOf();
        mailAt();
        tickets();
        stateOf();
        mergedInto();
    }

    /** Mail k answers the one before; all are in ticket 0. */
    private static TicketWeaver deskWithMails(int mails) {
        TicketWeaver x = deskWith(1);
        for (int i = 0; i < mails; i++) {
            x.mail(0, 0, i - 1, 0, 0);
        }
        return x;
    }

    private void mailParameters() {
        promise(6);
        sentence("Lets a mail come.");
        test("the first one", () -> {
            TicketWeaver x = new TicketWeaver();
            x.mail(0, 0, -1, 0, 0);
            c.due(1, x.mails());
            c.due(1, x.tickets());
            c.due(0, x.ticketOf(0));
        });
        sentence("`customer`: the customer, 0 to 7");
        test("0 is the first", () -> comesOf(0));
        test("7 is the last", () -> comesOf(7));
        sentence("`subject`: the subject, 0 to 19");
        test("0 is the least", () -> hasSubject(0));
        test("19 is the greatest", () -> hasSubject(19));
        sentence("`answered`: the number of the mail that it answers, or -1");
        answers("-1: none", 2, () -> deskWith(0, 2).mail(0, 9, -1, 0, 0));
        answers("0: the first mail", 0, () -> deskWith(0, 2).mail(0, 9, 0, 0, 0));
        answers("1: the last one of two", 1, () -> deskWith(0, 2).mail(0, 9, 1, 0, 0));
        answers("78: the last one of 79", 0, () -> deskWithMails(79).mail(0, 9, 78, 0, 0));
        sentence("`topic`: the topic, 0 to 5");
        test("0 is the least", () -> hasTopic(0));
        test("5 is the greatest", () -> hasTopic(5));
        sentence("`words`: the words, 0 to 1023");
        test("0: no word", () -> {
            TicketWeaver x = new TicketWeaver();
            x.addAnswer(1023);
            x.mail(0, 0, -1, 0, 0);
            c.dueThrow(NONE, () -> x.suggestion(0));
        });
        test("1023: all words", () -> {
            for (int word = 0; word < 10; word++) {
                TicketWeaver x = new TicketWeaver();
                x.addAnswer(1 << word);
                x.mail(0, 0, -1, 0, 1023);
                c.due(0, x.suggestion(0));
            }
        });
        sentence("Returns the number of the ticket that has it.");
        answers("the first one that is made", 0, () -> new TicketWeaver().mail(7, 19, -1, 5, 1023));
        answers("the last one that is made", 39, () -> deskWith(0, 39).mail(7, 19, -1, 5, 1023));
        answers("one that is already there", 3, () -> deskWith(0, 9).mail(0, 3, -1, 5, 1023));
    }

    private void comesOf(int customer) {
        TicketWeaver x = new TicketWeaver();
        x.mail(3, 0, -1, 0, 0);
        c.due(1, x.mail(customer, 0, -1, 0, 0));
        x.setClass(customer, 2);
        c.due(30, x.leftOf(1));
        c.due(240, x.leftOf(0));
    }

    private void hasSubject(int subject) {
        TicketWeaver x = new TicketWeaver();
        x.mail(0, 7, -1, 0, 0);
        c.due(1, x.mail(0, subject, -1, 0, 0));
        c.due(1, x.mail(0, subject, -1, 0, 0));
    }

    private void hasTopic(int topic) {
        TicketWeaver x = new TicketWeaver();
        x.mail(0, 0, -1, topic, 0);
        c.due(topic, x.setTopic(0, 3));
    }

    private void mailOutOfRange() {
        sentence("Throws `IllegalArgumentException` if a number but that of the answered mail is out of range");
        refusedAround("customer", 0, 7, ARGUMENT, (x, customer) -> x.mail(customer, 0, -1, 0, 1));
        refusedAround("subject", 0, 19, ARGUMENT, (x, subject) -> x.mail(0, subject, -1, 0, 1));
        refusedAround("topic", 0, 5, ARGUMENT, (x, topic) -> x.mail(0, 0, -1, topic, 1));
        refusedAround("number of words", 0, 1023, ARGUMENT, (x, words) -> x.mail(0, 0, -1, 0, words));
        refused("all of them", ARGUMENT, x -> x.mail(8, 20, -1, 6, 1024));
        refused("before the answered mail that is none", ARGUMENT, x -> x.mail(8, 0, 10, 0, 0));
        refused("before the 81st mail", ARGUMENT, () -> deskWithMails(80), x -> x.mail(0, 0, -1, 0, 1024));
        refused("before the 41st ticket", ARGUMENT, () -> deskWith(0, 40), x -> x.mail(2, 20, -1, 0, 0));
        refused("before all else", ARGUMENT, () -> deskWithMails(80), x -> x.mail(0, 0, 80, 6, 0));
    }

    private void mailToUnknown() {
        sentence("Throws `NoSuchElementException` if the answered one is neither -1 nor the number of a mail");
        refused("-2, below the one that means none", NONE, x -> x.mail(0, 0, -2, 0, 1));
        refused("10, the mail itself", NONE, x -> x.mail(0, 0, 10, 0, 1));
        refused("the smallest number of all", NONE, x -> x.mail(0, 0, LOW, 0, 1));
        refused("the largest number of all", NONE, x -> x.mail(0, 0, HIGH, 0, 1));
        refused("0, when there is none", NONE, TicketWeaver::new, x -> x.mail(0, 0, 0, 0, 1));
        refused("before the 81st mail", NONE, () -> deskWithMails(80), x -> x.mail(0, 0, 80, 0, 1));
        refused("before the 41st ticket", NONE, () -> deskWith(0, 40), x -> x.mail(2, 0, 40, 0, 1));
    }

    private void mailWithoutRoom() {
        sentence("Throws `IllegalStateException` if there were 80 mails, or a ticket would have to be made and there"
            + " are 40");
        answers("the 80th mail comes", 0, () -> deskWithMails(79).mail(0, 0, -1, 0, 0));
        refused("the 81st, to a ticket that is there", STATE, () -> deskWithMails(80), x -> x.mail(0, 0, -1, 0, 1));
        refused("the 81st, by its answered mail", STATE, () -> deskWithMails(80), x -> x.mail(0, 9, 79, 0, 1));
        refused("the 81st, for a new ticket", STATE, () -> deskWithMails(80), x -> x.mail(1, 0, -1, 0, 1));
        refused("the 81st, which would open an answered ticket", STATE, () -> {
            TicketWeaver x = deskWithMails(80);
            x.addAnswer(1);
            answerNext(x, 0);
            return x;
        }, x -> x.mail(0, 0, -1, 0, 1));
        answers("the 40th ticket is made", 39, () -> deskWith(0, 39).mail(2, 0, -1, 0, 0));
        refused("the 41st, of a new customer", STATE, () -> deskWith(0, 40), x -> x.mail(2, 0, -1, 0, 1));
        refused("the 41st, as the answered mail is another customer's", STATE, () -> deskWith(0, 40),
            x -> x.mail(2, 0, 0, 0, 1));
        refused("the 41st, as the only ticket of its subject is merged", STATE, () -> {
            TicketWeaver x = deskWith(0, 40);
            x.merge(0, 1);
            return x;
        }, x -> x.mail(0, 0, -1, 0, 1));
        refused("the 41st, as the only ticket of its subject was closed 1441 minutes ago", STATE,
            () -> closedAmongForty(1441), x -> x.mail(0, 0, 0, 0, 1));
        answers("with 40 tickets, one closed 1440 minutes ago", 0, () -> closedAmongForty(1440).mail(0, 0, -1, 0, 0));
        answers("with 40 tickets, one of its subject", 39, () -> deskWith(0, 40).mail(1, 19, -1, 0, 0));
        answers("with 40 tickets, the answered mail's", 0, () -> deskWith(0, 40).mail(0, 5, 0, 0, 0));
    }

    private static TicketWeaver closedAmongForty(int minutesAgo) {
        TicketWeaver x = deskWith(1, 40);
        closeNextAndWait(x, minutesAgo);
        return x;
    }

    private void ticketOf() {
        promise(7);
        sentence("Returns the ticket of a mail.");
        test("behind two mergings it is the last one", () -> {
            TicketWeaver x = deskWith(0, 3);
            x.merge(0, 1);
            x.merge(1, 2);
            c.due(2, x.ticketOf(0));
            c.due(2, x.ticketOf(1));
        });
        sentence("`mail`: the number of the mail");
        answers("0 is the first", 0, () -> deskWith(0, 40).ticketOf(0));
        answers("39 is the last of 40", 39, () -> deskWith(0, 40).ticketOf(39));
        answers("79 is the last of 80", 0, () -> deskWithMails(80).ticketOf(79));
        sentence("Returns the number of the ticket.");
        answers("a mail that joined", 39, () -> fortyTickets().ticketOf(40));
        sentence("Throws `NoSuchElementException` if there is no such mail");
        refusedAround("mail", 0, 9, NONE, TicketWeaver::ticketOf);
        refused("0, when there is none", NONE, TicketWeaver::new, x -> x.ticketOf(0));
        refused("80, behind the last one of 80", NONE, () -> deskWithMails(80), x -> x.ticketOf(80));
    }

    private void mails() {
        promise(8);
        sentence("Returns the number of mails.");
        answers("0 at first", 0, () -> new TicketWeaver().mails());
        answers("one", 1, () -> deskWithMails(1).mails());
        answers("80 at most", 80, () -> deskWithMails(80).mails());
        test("a merging takes none away", () -> {
            TicketWeaver x = deskWith(0, 3);
            x.merge(0, 1);
            c.due(3, x.mails());
        });
    }

    private void mailsOf() {
        promise(9);
        sentence("Returns the number of mails of a ticket.");
        answers("one, at least", 1, () -> deskWith(0, 2).mailsOf(1));
        firstAndLastTicket("`ticket`: the number of the ticket", 1, 2, TicketWeaver::mailsOf);
        sentence("Returns the number of mails, 0 if it is merged.");
        answers("80, all that can come", 80, () -> deskWithMails(80).mailsOf(0));
        answers("0 if it is merged", 0, () -> deskOfAllStates().mailsOf(4));
        answers("1 if it is closed", 1, () -> deskOfAllStates().mailsOf(3));
        test("80 behind a merging of 40 and 40", () -> {
            TicketWeaver x = new TicketWeaver();
            for (int i = 0; i < 80; i++) {
                x.mail(0, i % 2, -1, 0, 0);
            }
            x.merge(0, 1);
            c.due(80, x.mailsOf(1));
            c.due(0, x.mailsOf(0));
        });
        noSuchTicket(TicketWeaver::mailsOf);
    }

    private void mailAt() {
        promise(10);
        sentence("Returns a mail of a ticket, found by following the ticket.");
        answers("of the ticket, not of all", 40, () -> fortyTickets().mailAt(39, 1));
        firstAndLastTicket("`ticket`: the number of the ticket", 0, 39, (x, ticket) -> x.mailAt(ticket, 0));
        sentence("`index`: the index, from 0");
        answers("0 is the first", 0, () -> deskWithMails(80).mailAt(0, 0));
        answers("79 is the last of 80", 79, () -> deskWithMails(80).mailAt(0, 79));
        sentence("Returns the number of the mail.");
        test("each one of 80", () -> {
            TicketWeaver x = deskWithMails(80);
            for (int i = 0; i < 80; i++) {
                c.due(i, x.mailAt(0, i));
            }
        });
        noSuchTicket((x, ticket) -> x.mailAt(ticket, 0));
        refused("before the index that is none", INDEX, x -> x.mailAt(10, -1));
        sentence("Throws `NoSuchElementException` if it has no such mail");
        refusedAround("index", 0, 0, NONE, (x, index) -> x.mailAt(0, index));
        refused("2, behind the second of two", NONE, Bounds::fortyTickets, x -> x.mailAt(39, 2));
        refused("80, behind the last one of 80", NONE, () -> deskWithMails(80), x -> x.mailAt(0, 80));
        refused("0 of a merged ticket", NONE, x -> x.mailAt(4, 0));
    }

    private void tickets() {
        promise(11);
        sentence("Returns the number of tickets.");
        answers("0 at first", 0, () -> new TicketWeaver().tickets());
        answers("one", 1, () -> deskWith(0, 1).tickets());
        answers("40 at most", 40, () -> deskWith(0, 40).tickets());
        sentence("Returns the number of tickets, merged and closed ones included.");
        test("merged ones", () -> {
            TicketWeaver x = deskWith(0, 3);
            x.merge(0, 1);
            x.merge(1, 2);
            c.due(3, x.tickets());
        });
        test("closed ones", () -> {
            TicketWeaver x = deskWith(1, 1);
            closeNextAndWait(x, 1441);
            c.due(1, x.tickets());
        });
        answers("a mail that joins makes none", 1, () -> deskWithMails(80).tickets());
    }

    private void stateOf() {
        promise(12);
        sentence("Returns the state of a ticket.");
        answers("a new one is open", 'o', () -> deskWith(0, 1).stateOf(0));
        firstAndLastTicket("`ticket`: the number of the ticket", 'h', 'h', (x, ticket) -> {
            x.hold(ticket);
            return x.stateOf(ticket);
        });
        sentence("Returns 'o', 'h', 'a', 'c' or 'm'.");
        for (int i = 0; i < 5; i++) {
            int ticket = i;
            char state = "ohacm".charAt(i);
            answers("'" + state + "'", state, () -> deskOfAllStates().stateOf(ticket));
        }
        noSuchTicket(TicketWeaver::stateOf);
    }

    private void mergedInto() {
        promise(13);
        sentence("Returns the ticket in which the mails of a merged ticket are now, over others if that one was"
            + " merged, too.");
        test("over none", () -> {
            TicketWeaver x = deskWith(0, 3);
            x.merge(2, 0);
            c.due(0, x.mergedInto(2));
        });
        test("over 38 others", () -> {
            TicketWeaver x = new TicketWeaver();
            x.mail(0, 0, -1, 0, 0);
            for (int i = 1; i < 40; i++) {
                x.mail(0, i % 2, -1, 0, 0);
                x.merge(i - 1, i);
            }
            c.due(39, x.mergedInto(0));
            c.due(39, x.mergedInto(38));
            c.due(40, x.mailsOf(39));
        });
        firstAndLastTicket("`ticket`: the number of the ticket", 1, 38, (x, ticket) -> {
            x.merge(ticket, ticket == 0 ? 1 : 38);
            return x.mergedInto(ticket);
        });
        sentence("Returns the number of the ticket.");
        test("one that is closed now", () -> {
            TicketWeaver x = deskWith(1, 2);
            x.merge(1, 0);
            closeNextAndWait(x, 1441);
            c.due(0, x.mergedInto(1));
        });
        noSuchTicket(TicketWeaver::mergedInto);
        sentence("Throws `NoSuchElementException` if it is not merged");
        refusedInStates("ohac", NONE, TicketWeaver::mergedInto);
        refused("one into which another was merged", NONE, x -> x.mergedInto(1));
    }
}
