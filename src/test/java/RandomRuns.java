import java.lang.reflect.InvocationTargetException;
import java.lang.reflect.Method;
import java.lang.reflect.Modifier;
import java.util.ArrayList;
import java.util.Arrays;
import java.util.Comparator;
import java.util.List;
import java.util.Map;
import java.util.Random;
import java.util.TreeMap;
import java.util.function.Predicate;

/** Long runs of chosen calls, each answered by the program and by the model of the document; the seeds are fixed. */
final class RandomRuns {
    private static final int RUNS = 1500;
    private static final int CALLS = 512;

    /** How often a call of a name is drawn; every other name is drawn with 1. */
    private static final Map<String, Integer> SHARES = Map.ofEntries(
        Map.entry("mail", 24), Map.entry("pass", 8), Map.entry("take", 14), Map.entry("answer", 12),
        Map.entry("close", 8), Map.entry("hold", 5), Map.entry("resume", 4), Map.entry("merge", 4),
        Map.entry("handOver", 5), Map.entry("giveBack", 3), Map.entry("setTopic", 4), Map.entry("setClass", 3),
        Map.entry("setPromise", 3), Map.entry("addAgent", 4), Map.entry("learn", 2), Map.entry("setOnShift", 8),
        Map.entry("addAnswer", 4), Map.entry("nextFor", 4), Map.entry("weight", 3), Map.entry("suggestion", 3),
        Map.entry("suggestionByWords", 3), Map.entry("isBreached", 3), Map.entry("mailAt", 3));

    private final List<Method> methods = new ArrayList<>();
    private final List<Method> drawn = new ArrayList<>();
    private final Map<String, Integer> seen = new TreeMap<>();
    private Random random;
    private DeskModel model;
    private TicketWeaver desk;
    private int customers;
    private int subjects;
    private int longestPromise;
    private int longestPass;

    RandomRuns() {
        for (Method method : TicketWeaver.class.getDeclaredMethods()) {
            if (Modifier.isPublic(method.getModifiers())) {
                methods.add(method);
            }
        }
        // The order of declared methods is the machine's own matter; the runs shall be the same everywhere.
        methods.sort(Comparator.comparing(Method::getName));
        for (Method method : methods) {
            for (int i = 0; i < SHARES.getOrDefault(method.getName(), 1); i++) {
                drawn.add(method);
            }
        }
    }

    /** Returns the first difference, or nothing. */
    String firstDifference() throws Exception {
        for (int run = 0; run < RUNS; run++) {
            begin(run);
            for (int call = 0; call < CALLS; call++) {
                Method method = drawn.get(random.nextInt(drawn.size()));
                Object[] arguments = argumentsOf(method);
                Object want = outcome(DeskModel.class.getMethod(method.getName(), method.getParameterTypes()), model,
                    arguments);
                Object got = outcome(method, desk, arguments);
                seen.merge(method.getName() + " " + kindOf(want), 1, Integer::sum);
                if (!want.equals(got)) {
                    return "run " + run + ", call " + call + ": " + method.getName() + Arrays.toString(arguments)
                        + " answered " + got + ", due is " + want;
                }
            }
        }
        return "";
    }

    /** What the runs have not come to, of the answers and the exceptions that the document lists. */
    List<String> unseen() {
        List<String> missing = new ArrayList<>();
        for (Method method : methods) {
            List<String> due = new ArrayList<>(List.of("answers"));
            for (Class<?> thrown : method.getExceptionTypes()) {
                due.add(thrown.getSimpleName());
            }
            for (String kind : due) {
                if (!seen.containsKey(method.getName() + " " + kind)) {
                    missing.add(method.getName() + " " + kind);
                }
            }
        }
        return missing;
    }

    private void begin(int run) {
        random = new Random(run);
        model = new DeskModel();
        desk = new TicketWeaver();
        customers = run % 3 == 0 ? 8 : 1 + random.nextInt(4);
        subjects = run % 3 == 0 ? 20 : 1 + random.nextInt(8);
        longestPromise = run % 2 == 0 ? 40 : 1000;
        longestPass = run % 5 == 0 ? 600 : 1 + random.nextInt(60);
    }

    private static String kindOf(Object outcome) {
        return outcome instanceof Class<?> thrown ? thrown.getSimpleName() : "answers";
    }

    private static Object outcome(Method method, Object target, Object[] arguments) throws Exception {
        try {
            return method.invoke(target, arguments);
        } catch (InvocationTargetException e) {
            return target instanceof TicketWeaver ? Checks.thrown(e.getCause()) : e.getCause().getClass();
        }
    }

    private Object[] argumentsOf(Method method) {
        switch (method.getName()) {
            case "pass": return of(upTo(1, longestPass, 1, 600));
            case "setClass": return of(number(customers), number(3));
            case "setPromise": return of(number(3), upTo(1, longestPromise, 1, 9999));
            case "mail": return of(number(customers), number(subjects), answered(), number(6), words());
            case "ticketOf": return of(number(model.mails()));
            case "mailAt": return of(ticket(t -> true), number(4));
            case "setTopic": return of(ticket(t -> t.active()), number(6));
            case "clock": case "leftOf": return of(ticket(t -> t.active()));
            case "isBreached": return of(ticket(t -> t.active()));
            case "addAgent": return of(upTo(0, 63, 0, 63));
            case "learn": return of(number(model.skills.size()), number(6));
            case "setOnShift": return of(number(model.skills.size()), random.nextInt(5) > 0);
            case "handOver": return of(ticket(t -> t.agent != null), number(model.skills.size()));
            case "giveBack": case "agentOf": return of(ticket(t -> t.agent != null));
            case "hold": return of(ticket(t -> t.state == 'o'));
            case "resume": return of(ticket(t -> t.state == 'h'));
            case "answer": return of(ticket(t -> t.state == 'o' && t.agent != null), answerOrNone());
            case "close": return of(ticket(t -> t.state == 'a'));
            case "merge": return of(ticket(t -> t.active()), ticket(t -> t.active()));
            case "mergedInto": return of(ticket(t -> t.state == 'm'));
            case "addAnswer": return of(words());
            case "weight": return of(number(model.answerWords.size()), number(6));
            case "stateOf": case "mailsOf": case "suggestion": case "suggestionByWords":
                return of(ticket(t -> true));
            case "nextFor": case "nextByTickets": case "waiting": case "held": case "take":
                return of(number(model.skills.size()));
            default: return of();
        }
    }

    private static Object[] of(Object... arguments) {
        return arguments;
    }

    /** Mostly a number below the count, now and then one that is just or far out of range. */
    private int number(int count) {
        int kind = random.nextInt(60);
        if (kind == 0) {
            return -1;
        }
        if (kind == 1) {
            return count;
        }
        if (kind == 2) {
            return random.nextBoolean() ? Integer.MAX_VALUE : Integer.MIN_VALUE;
        }
        return count == 0 ? 0 : random.nextInt(count);
    }

    private int upTo(int least, int usual, int edgeBelow, int edgeAbove) {
        int kind = random.nextInt(40);
        if (kind == 0) {
            return edgeBelow - random.nextInt(2);
        }
        if (kind == 1) {
            return edgeAbove + random.nextInt(2);
        }
        return least + random.nextInt(usual - least + 1);
    }

    private int words() {
        return upTo(0, 1023, 0, 1023) & (random.nextBoolean() ? -1 : 0b10010010011);
    }

    private int answered() {
        return random.nextInt(3) > 0 ? -1 : number(model.mails());
    }

    private int answerOrNone() {
        return random.nextInt(4) == 0 ? -1 : number(model.answerWords.size());
    }

    private int ticket(Predicate<DeskModel.Ticket> fitting) {
        List<DeskModel.Ticket> found = model.all.stream().filter(fitting).toList();
        if (found.isEmpty() || random.nextInt(5) == 0) {
            return number(model.tickets());
        }
        return found.get(random.nextInt(found.size())).number;
    }
}
