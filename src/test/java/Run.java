import java.lang.reflect.InvocationTargetException;
import java.lang.reflect.Method;
import java.util.ArrayList;
import java.util.HashMap;
import java.util.List;
import java.util.Map;
import java.util.regex.Matcher;
import java.util.regex.Pattern;

/**
 * Runs of calls on new objects, told as text: {@code paper(0,5)=0 3*fold(0,1) fold(0,7)=BEYOND}. A call without
 * an answer must not be refused. Each run is held against NaiveFolds, too. For each call that is due to be refused
 * two more objects are made, one that is asked it and one that is not: told() alone may tell them apart.
 *
 * <p>Short forms: say(TEXT) feeds it, going(TEXT) and lapse(TEXT) make it the text of use 0, 1; folded(km,debt,set)
 * makes a paper with these creases, whatever its kind holds, flying(..) one that is up as well; row(sheet,bits,v..)
 * makes a sheet of these numbers.
 */
final class Run {
    private static final int LOW = -1000000000;
    private static final List<String> ERRORS = List.of("LOW", "BEYOND", "NONE", "STATE", "FULL", "KIND");
    // What an object answers later is free, so no test may rest on it.
    private static final int MOST_CALLS = 512;
    private static final Pattern CALL = Pattern.compile("(?:(\\d+)\\*)?(\\w+)\\((.*)\\)(?:=(-?\\w+))?");
    private static final Map<String, Method> FACE = new HashMap<>();
    private static int wrong = 0;
    private static int runs = 0;

    static {
        for (Method m : CraneFolds.class.getMethods())
            if (m.getDeclaringClass() == CraneFolds.class) FACE.put(m.getName(), m);
    }

    /** One call; due is null where any answer but an error is fine. */
    private record Call(String name, long[] args, String due) {
        boolean refused() { return due != null && ERRORS.contains(due); }
        @Override public String toString() {
            StringBuilder all = new StringBuilder();
            for (long a : args) all.append(all.length() == 0 ? "" : ",").append(a);
            return name + "(" + all + ")";
        }
    }

    /** An object, and how often it was called. */
    private static final class Counted {
        private final CraneFolds folds = new CraneFolds();
        private int calls = 0;

        long ask(String name, long... args) {
            calls++;
            if (calls > MOST_CALLS) throw new IllegalStateException("more than " + MOST_CALLS + " calls");
            Method m = FACE.get(name);
            Object[] given = new Object[args.length];
            for (int i = 0; i < args.length; i++)
                given[i] = m.getParameterTypes()[i] == long.class ? (Object) args[i] : (Object) (int) args[i];
            try {
                return (Integer) m.invoke(folds, given);
            } catch (InvocationTargetException e) {
                throw new IllegalStateException(name + " threw " + e.getCause(), e);
            } catch (IllegalAccessException e) {
                throw new IllegalStateException(e);
            }
        }

        void askAll(List<Call> calls) {
            for (Call c : calls) ask(c.name, c.args);
        }
    }

    private Run() { }

    /** A run that shows what a sentence of the document says. */
    static void of(String sentence, String... parts) {
        runs++;
        List<Call> calls = read(String.join(" ", parts));
        try {
            hold(sentence, calls);
        } catch (IllegalStateException e) {
            fault(sentence, e.getMessage());
        }
    }

    /** An argument (@) is fine from least to most, and refused just below, just above, and far beyond. */
    static void bounds(String sentence, String ahead, String call, int least, int most, String error) {
        for (int v : new int[] {least, most}) of(sentence, ahead, call.replace("@", "" + v));
        for (long v : new long[] {least - 1L, most + 1L, Integer.MIN_VALUE, Integer.MAX_VALUE})
            of(sentence, ahead, call.replace("@", "" + v) + "=" + error);
    }

    static void end() {
        if (wrong == 0) System.out.println("all answers of " + runs + " runs are as due");
        else System.out.println(wrong + " answers are not as due");
        if (wrong != 0) System.exit(1);
    }

    private static void fault(String sentence, String what) {
        wrong++;
        System.out.println(sentence + ": " + what);
    }

    private static void hold(String sentence, List<Call> calls) {
        Counted one = new Counted();
        NaiveFolds naive = new NaiveFolds();
        for (int i = 0; i < calls.size(); i++) {
            Call c = calls.get(i);
            long got = one.ask(c.name, c.args);
            long model = naive.call(c.name, c.args);
            String due = ", due is " + (c.due == null ? "no error" : c.due);
            if (!isDue(c, got)) fault(sentence, "call " + i + " " + c + " answered " + got + due);
            if (!isDue(c, model)) fault(sentence, "call " + i + " " + c + ": the model answers " + model + due);
            if (c.refused()) changesNothing(sentence, calls.subList(0, i), c);
        }
    }

    private static boolean isDue(Call c, long got) {
        if (c.due == null) return got > LOW - 1 || got < LOW - 5;
        return got == (c.refused() ? LOW - ERRORS.indexOf(c.due) : number(c.due));
    }

    /** "One that answers an ERROR changes nothing but what told() tells." */
    private static void changesNothing(String sentence, List<Call> ahead, Call refused) {
        Counted asked = new Counted();
        Counted other = new Counted();
        asked.askAll(ahead);
        other.askAll(ahead);
        asked.ask(refused.name, refused.args);
        for (int k = 1; k <= 5; k++) {
            long more = asked.ask("told", k) - other.ask("told", k);
            if (more != (refused.due.equals(ERRORS.get(k)) ? 1 : 0))
                fault(sentence, refused + ": told(" + k + ") is more by " + more);
        }
        List<String> a = seen(asked);
        List<String> b = seen(other);
        for (int i = 0; i < Math.max(a.size(), b.size()); i++) {
            String x = i < a.size() ? a.get(i) : "nothing";
            String y = i < b.size() ? b.get(i) : "nothing";
            if (!x.equals(y)) {
                fault(sentence, refused + " changed " + y + " to " + x);
                return;
            }
        }
    }

    /**
     * All that can be seen of an object but told(); it is spent then. What may itself be refused is asked as late as
     * can be, lest it hide what the refused call did.
     */
    private static List<String> seen(Counted x) {
        List<String> all = new ArrayList<>();
        seeDesk(x, all);
        for (int k = 0; k < x.ask("count", 8); k++) see(x, all, "trace", k);
        see(x, all, "check");
        see(x, all, "text", 0);
        seeTexts(x, all);
        seeSheets(x, all);
        if (see(x, all, "restore") >= 0) {
            seeDesk(x, all);
            see(x, all, "check");
            see(x, all, "text", 1);
            seeTexts(x, all);
        }
        see(x, all, "image");
        return all;
    }

    private static void seeDesk(Counted x, List<String> all) {
        for (int k = 0; k < 10; k++) see(x, all, "count", k);
        for (int p = 0; p < x.ask("count", 0); p++) for (int k = 0; k < 6; k++) see(x, all, "ofPaper", p, k);
        seeTexts(x, all);
    }

    private static void seeTexts(Counted x, List<String> all) {
        see(x, all, "law", 0, 3, 5, 7);
        see(x, all, "law", 0, 0, 2, 1);
        see(x, all, "law", 1, 700, 83, 3);
        see(x, all, "law", 1, 20, 999, 6);
    }

    /** Numbers are read by making them debts of eight papers, so those below 0 or above 9999 stop that. */
    private static void seeSheets(Counted x, List<String> all) {
        for (long p = x.ask("count", 0); p < 8; p++) x.ask("paper", 0, 0);
        for (int k = 0; k < 4; k++) seeNumbers(x, all, k);
        for (int k = 0; k < 4; k++)
            for (int j = k + 1; j < 4; j++) see(x, all, "move", k, 0, j, 0, 0);
        for (int k = 0; k < 4; k++) {
            int size = seeSize(x, all, k);
            if (size > 8) {
                see(x, all, "move", k, 8, k, 0, Math.min(8, size - 8));
                seeNumbers(x, all, k);
            }
        }
        for (int bits : new int[] {8, 16}) {
            x.ask("sheet", 3, bits, 0);
            for (int k = 0; k < 3; k++) see(x, all, "move", k, 0, 3, 0, 0);
        }
    }

    private static void seeNumbers(Counted x, List<String> all, int sheet) {
        long read = see(x, all, "debts", sheet);
        for (int p = 0; p < read; p++) see(x, all, "ofPaper", p, 2);
    }

    private static int seeSize(Counted x, List<String> all, int sheet) {
        int least = 0;
        int most = 40;
        while (least < most) {
            int n = (least + most + 1) / 2;
            if (see(x, all, "move", sheet, 0, sheet, 0, n) == n) least = n; else most = n - 1;
        }
        return least;
    }

    private static long see(Counted x, List<String> all, String name, long... args) {
        long got = x.ask(name, args);
        all.add(new Call(name, args, null) + " = " + got);
        return got;
    }

    // ---- reading

    private static List<Call> read(String text) {
        List<Call> calls = new ArrayList<>();
        int[] papers = new int[1];
        for (String word : text.trim().split(" +")) {
            Matcher m = CALL.matcher(word);
            if (!m.matches()) throw new IllegalArgumentException("no call: " + word);
            int times = m.group(1) == null ? 1 : Integer.parseInt(m.group(1));
            for (int i = 0; i < times; i++) add(calls, papers, m.group(2), m.group(3), m.group(4));
        }
        return calls;
    }

    private static void add(List<Call> calls, int[] papers, String name, String inside, String due) {
        switch (name) {
            case "say", "going", "lapse" -> {
                for (int i = 0; i < inside.length(); i++)
                    calls.add(new Call("feed", new long[] {inside.charAt(i), 1}, null));
                int use = name.equals("going") ? 0 : 1;
                if (!name.equals("say")) calls.add(new Call("text", new long[] {use}, due == null ? "1" : due));
            }
            case "folded", "flying" -> {
                long[] a = numbers(inside);
                int p = papers[0]++;
                calls.add(new Call("paper", new long[] {0, a[1]}, "" + p));
                for (int k = 0; k < 7; k++)
                    if ((a[2] >> k & 1) == 1) calls.add(new Call("fold", new long[] {p, k}, null));
                calls.add(new Call("become", new long[] {p, a[0]}, "0"));
                if (name.equals("flying")) calls.add(new Call("change", new long[] {p, 1, 1}, "0"));
            }
            case "row" -> {
                long[] a = numbers(inside);
                calls.add(new Call("sheet", new long[] {a[0], a[1], a.length - 2}, "1"));
                for (int i = 2; i < a.length; i++) calls.add(new Call("put", new long[] {a[0], i - 2, a[i]}, "1"));
            }
            default -> {
                long[] a = numbers(inside);
                if (!FACE.containsKey(name) || FACE.get(name).getParameterCount() != a.length)
                    throw new IllegalArgumentException("no call: " + name + "(" + inside + ")");
                Call c = new Call(name, a, due);
                calls.add(c);
                if (name.equals("paper") && !c.refused()) papers[0]++;
            }
        }
    }

    private static long[] numbers(String inside) {
        if (inside.isEmpty()) return new long[0];
        String[] parts = inside.split(",");
        long[] numbers = new long[parts.length];
        for (int i = 0; i < parts.length; i++) numbers[i] = number(parts[i]);
        return numbers;
    }

    private static long number(String word) {
        return switch (word) {
            case "MIN" -> Integer.MIN_VALUE;
            case "MAX" -> Integer.MAX_VALUE;
            default -> Long.parseLong(word);
        };
    }
}
