import java.util.Collections;
import java.util.List;

/** Promises 38 to 43: what was counted, and whether the desk is sound. */
final class CountBounds extends Bounds {
    CountBounds(Checks checks, Document document) {
        super(checks, document);
    }

    @Override
    void run() {
        breaches();
        answers();
        minutesOpen();
        keptShare();
        meanClock();
        isSound();
        isNotSoundByMails();
        isNotSoundByQueues();
    }

    /** As many tickets as minutes; each one is answered at once when its minutes have passed. */
    private static TicketWeaver answeredBehind(int... minutes) {
        TicketWeaver x = deskWith(1, minutes.length);
        int time = 0;
        for (int minute : minutes) {
            if (minute > time) {
                x.pass(minute - time);
                time = minute;
            }
            answerNext(x, -1);
        }
        return x;
    }

    private void breaches() {
        promise(38);
        sentence("Returns how often tickets became breached so far.");
        answers("0 at first", 0, () -> new TicketWeaver().breaches());
        test("none at the promise, one a minute later", () -> {
            TicketWeaver x = deskWith(0, 1);
            x.pass(240);
            c.due(0, x.breaches());
            x.pass(1);
            c.due(1, x.breaches());
        });
        sentence("Returns the number of times.");
        test("40 within one call, and none of them again", () -> {
            TicketWeaver x = deskWith(0, 40);
            x.pass(241);
            c.due(40, x.breaches());
            x.pass(600);
            c.due(40, x.breaches());
        });
        test("a ticket that began anew once more", () -> {
            TicketWeaver x = answeredBehind(241);
            x.mail(0, 0, -1, 0, 0);
            c.due(1, x.breaches());
            x.pass(240);
            c.due(1, x.breaches());
            x.pass(1);
            c.due(2, x.breaches());
        });
    }

    private void answers() {
        promise(39);
        sentence("Returns how often tickets were answered so far.");
        answers("0 at first", 0, () -> new TicketWeaver().answers());
        answers("0 when tickets were taken alone", 0, () -> sixAgents().answers());
        sentence("Returns the number of times.");
        answers("one", 1, () -> answeredBehind(0).answers());
        answers("40 tickets", 40, () -> answeredBehind(new int[40]).answers());
        test("one ticket twice, with and without a prepared answer", () -> {
            TicketWeaver x = answeredBehind(0);
            x.addAnswer(0);
            x.mail(0, 0, -1, 0, 0);
            answerNext(x, 0);
            c.due(2, x.answers());
        });
    }

    private void minutesOpen() {
        promise(40);
        sentence("Returns the sum of all minutes that clocks have counted so far, those that began anew included.");
        test("a clock that began anew", () -> {
            TicketWeaver x = answeredBehind(7);
            x.pass(100);
            x.mail(0, 0, -1, 0, 0);
            x.pass(1);
            c.due(8L, x.minutesOpen());
        });
        test("both clocks of a merging", () -> {
            TicketWeaver x = deskWith(0, 2);
            x.pass(7);
            x.merge(0, 1);
            x.pass(1);
            c.due(15L, x.minutesOpen());
        });
        test("a held one counts none", () -> {
            TicketWeaver x = deskWith(0, 2);
            x.hold(0);
            x.pass(600);
            c.due(600L, x.minutesOpen());
        });
        sentence("Returns the sum.");
        answers("0 at first", 0L, () -> new TicketWeaver().minutesOpen());
        answers("0 behind minutes without a ticket", 0L, () -> {
            TicketWeaver x = new TicketWeaver();
            x.pass(600);
            return x.minutesOpen();
        });
        answers("40 tickets in the most minutes that 512 calls can let pass", 40L * 600 * 471, () -> {
            TicketWeaver x = deskWith(0, 40);
            for (int i = 0; i < 471; i++) {
                x.pass(600);
            }
            return x.minutesOpen();
        });
    }

    private void keptShare() {
        promise(41);
        sentence("Returns the share of the answers that were sent while the ticket was not breached.");
        answers("a clock as great as the promise is kept", 1.0f, () -> answeredBehind(240).keptShare());
        answers("one minute more is not", 0.0f, () -> answeredBehind(241).keptShare());
        test("a smaller promise breaks nothing before a minute passes", () -> {
            TicketWeaver x = deskWith(1, 2);
            x.pass(10);
            x.setPromise(0, 9);
            answerNext(x, -1);
            c.due(1.0f, x.keptShare());
            x.pass(1);
            answerNext(x, -1);
            c.due(0.5f, x.keptShare());
        });
        sentence("Returns the number of these answers divided by that of all answers, both converted to float.");
        answers("one of 3", 1.0f / 3.0f, () -> answeredBehind(240, 241, 600).keptShare());
        answers("2 of 3", 2.0f / 3.0f, () -> answeredBehind(0, 240, 241).keptShare());
        answers("39 of 40", 39.0f / 40.0f, () -> {
            int[] minutes = new int[40];
            minutes[39] = 241;
            return answeredBehind(minutes).keptShare();
        });
        sentence("Throws `ArithmeticException` if no ticket was answered");
        refused("nothing there", ARITHMETIC, TicketWeaver::new, TicketWeaver::keptShare);
        refused("a ticket that was taken", ARITHMETIC, Bounds::sixAgents, TicketWeaver::keptShare);
        answers("one that was answered and is open again", 1.0f, () -> {
            TicketWeaver x = answeredBehind(0);
            x.mail(0, 0, -1, 0, 0);
            return x.keptShare();
        });
    }

    private void meanClock() {
        promise(42);
        sentence("Returns the mean of the clocks that tickets had when they were answered.");
        answers("0", 0.0, () -> answeredBehind(0).meanClock());
        test("what passes behind the answer does not count", () -> {
            TicketWeaver x = answeredBehind(7);
            x.pass(600);
            c.due(7.0, x.meanClock());
        });
        test("a clock that began anew counts twice", () -> {
            TicketWeaver x = answeredBehind(7);
            x.mail(0, 0, -1, 0, 0);
            x.pass(2);
            answerNext(x, -1);
            c.due(4.5, x.meanClock());
        });
        sentence("Returns the sum of these clocks divided by the number of answers, both converted to double.");
        answers("one third", 1.0 / 3.0, () -> answeredBehind(0, 0, 1).meanClock());
        answers("far over the promise", 1801.0 / 3.0, () -> answeredBehind(600, 600, 601).meanClock());
        answers("the greatest clock that 512 calls can lead to", 600.0 * 506, () -> {
            TicketWeaver x = deskWith(1, 1);
            for (int i = 0; i < 506; i++) {
                x.pass(600);
            }
            answerNext(x, -1);
            return x.meanClock();
        });
        sentence("Throws `ArithmeticException` if no ticket was answered");
        refused("nothing there", ARITHMETIC, TicketWeaver::new, TicketWeaver::meanClock);
        refused("a ticket that was taken", ARITHMETIC, Bounds::sixAgents, TicketWeaver::meanClock);
    }

    private void isSound() {
        promise(43);
        sentence("Checks whether each mail is one of one ticket that is not merged, and for each agent, the next ticket"
            + " is the same by both ways.");
        answers("nothing there", true, () -> new TicketWeaver().isSound());
        answers("all states", true, () -> deskOfAllStates().isSound());
        answers("40 tickets", true, () -> fortyTickets().isSound());
        answers("6 agents", true, () -> sixAgents().isSound());
        test("one mail in a chain of mergings", () -> {
            TicketWeaver x = deskWith(1, 3);
            x.merge(0, 1);
            x.merge(1, 2);
            c.due(true, x.isSound());
        });
    }

    @SuppressWarnings("unchecked")
    private static List<Object> mailsInside(TicketWeaver x, int ticket) throws Exception {
        return (List<Object>) inside(ticketInside(x, ticket), "mails");
    }

    private static List<?> lineInside(TicketWeaver x, int topic) throws Exception {
        return (List<?>) inside(((Object[]) inside(x, "queues"))[topic], "line");
    }

    private void isNotSoundByMails() {
        sentence("Returns whether both hold.");
        test("a mail in no ticket", () -> {
            TicketWeaver x = deskWith(0, 2);
            mailsInside(x, 1).clear();
            c.due(false, x.isSound());
        });
        test("a mail in two tickets", () -> {
            TicketWeaver x = deskWith(0, 2);
            mailsInside(x, 1).add(0, mailsInside(x, 0).get(0));
            c.due(false, x.isSound());
        });
        test("a mail in the place of another", () -> {
            TicketWeaver x = deskWith(0, 2);
            mailsInside(x, 1).set(0, mailsInside(x, 0).remove(0));
            c.due(false, x.isSound());
        });
        test("mails that changed places", () -> {
            TicketWeaver x = deskWith(0, 2);
            mailsInside(x, 0).add(mailsInside(x, 1).remove(0));
            mailsInside(x, 1).add(mailsInside(x, 0).remove(0));
            c.due(false, x.isSound());
        });
        test("a mail twice in its ticket, and another in none", () -> {
            TicketWeaver x = deskWith(0, 2);
            mailsInside(x, 0).add(mailsInside(x, 0).get(0));
            mailsInside(x, 1).clear();
            c.due(false, x.isSound());
        });
        test("a mail in a merged ticket", () -> {
            TicketWeaver x = deskWith(0, 2);
            x.merge(0, 1);
            mailsInside(x, 0).add(mailsInside(x, 1).remove(0));
            c.due(false, x.isSound());
        });
    }

    private void isNotSoundByQueues() {
        test("a queue that lacks its tickets", () -> {
            TicketWeaver x = deskWith(1, 3);
            lineInside(x, 0).clear();
            c.due(false, x.isSound());
        });
        test("a queue in another order, for the last agent alone", () -> {
            TicketWeaver x = deskWith(1, 3);
            Collections.reverse(lineInside(x, 0));
            c.due(false, x.isSound());
            x.setOnShift(0, false);
            c.due(true, x.isSound());
            x.addAgent(1);
            c.due(true, x.isSound());
            x.setOnShift(1, true);
            c.due(false, x.isSound());
        });
    }
}
