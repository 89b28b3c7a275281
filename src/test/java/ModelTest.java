import java.lang.reflect.InvocationTargetException;
import java.lang.reflect.Method;
import java.util.ArrayList;
import java.util.Arrays;
import java.util.Comparator;
import java.util.List;
import java.util.Random;

/** Random runs of calls, each answer held against NaiveFolds; a call that throws is wrong, too. */
public final class ModelTest {
    private static final int RUNS = 3000;
    // What an object answers later is free.
    private static final int MOST_CALLS = 512;
    private static final String[] TEXTS = {
        "9-w+b", "99-w*h+b", "w<4&h>2|b", "!(w>3)*20+h", "(w+h)%(b+1)*7", "1/0+w%0+b", "((((w))))", "9999*9999*b",
        "f/10", "o/9+f/7+d", "o>500&f<300|d=3", "!d*50+1", "(0-o)/(0-7)", "d%2*o", "!!!!!o", "!(!(!(o)))", "o-f",
        "!!!!!!o", "(((((o)))))", "((((((o))))))", "1<2<3", "1=2&3=4", "12345", "(1+", "1)", "w+x", "", "()", "!", "1 +2",
        "(1<2)<3", "1+(2", "0-9999*9999", "w&!h|b&1", "9-w/2*h%3+b-0001", "(1>w)=(2>h)", "!(w)", "5*!w",
    };
    private static final int[] ODD = {Integer.MIN_VALUE, Integer.MAX_VALUE, -1, -2, 0, 1, 127, 128, 255, 256, 9999, 10000,
        999, 1000, 60, 61, 40, 41, 69, 70, 8, 9, 10, 31, 32, 65536, -1000000001, Integer.MIN_VALUE + 1, 1 << 30};

    private final Random random;
    private final CraneFolds folds = new CraneFolds();
    private final NaiveFolds naive = new NaiveFolds();
    private final List<String> done = new ArrayList<>();
    private boolean wrong = false;

    private ModelTest(long seed) { random = new Random(seed); }

    public static void main(String[] args) {
        List<Method> methods = new ArrayList<>();
        for (Method m : CraneFolds.class.getDeclaredMethods())
            if (java.lang.reflect.Modifier.isPublic(m.getModifiers())) methods.add(m);
        methods.sort(Comparator.comparing(Method::getName));
        int bad = 0;
        int runs = args.length > 0 ? Integer.parseInt(args[0]) : RUNS;
        for (int seed = 0; seed < runs && bad < 5; seed++) {
            ModelTest run = new ModelTest(seed);
            run.play(methods);
            if (run.wrong) bad++;
        }
        bad += neverThrows(methods);
        System.out.println(bad == 0 ? "all answers are as due" : bad + " runs are not as due");
        if (bad != 0) System.exit(1);
    }

    /** What is answered behind the 512th call is free, but no call may throw there either. */
    private static int neverThrows(List<Method> methods) {
        int bad = 0;
        for (int seed = 0; seed < 20; seed++) {
            ModelTest run = new ModelTest(-1 - seed);
            for (int i = 0; i < 5000; i++) {
                Method m = methods.get(run.random.nextInt(methods.size()));
                long[] args = run.arguments(m);
                try {
                    m.invoke(run.folds, run.given(m, args));
                } catch (InvocationTargetException | IllegalAccessException e) {
                    System.out.println(m.getName() + Arrays.toString(args) + " threw " + e.getCause());
                    bad++;
                }
            }
        }
        return bad;
    }

    private Object[] given(Method m, long[] args) {
        Object[] given = new Object[args.length];
        for (int i = 0; i < args.length; i++)
            given[i] = m.getParameterTypes()[i] == long.class ? (Object) args[i] : (Object) (int) args[i];
        return given;
    }

    private void play(List<Method> methods) {
        int papers = random.nextInt(10);
        for (int i = 0; i < papers; i++) {
            call(find(methods, "paper"), random.nextInt(70), random.nextInt(10000));
            for (int k = random.nextInt(6); k > 0; k--) call(find(methods, "fold"), i, random.nextInt(7));
            if (random.nextBoolean()) call(find(methods, "release"), i);
        }
        int calls = 150;
        for (int i = 0; i < calls && !wrong; i++) {
            Method m = methods.get(random.nextInt(methods.size()));
            if (m.getName().equals("feed") || m.getName().equals("text")) feedText(methods);
            else if (m.getName().equals("sheet")) fillSheet(methods);
            else if (m.getName().equals("check") && random.nextBoolean()) tellRight(methods);
            else call(m, arguments(m));
        }
        for (int k = 0; k <= 10; k++) call(find(methods, "count"), k);
        for (int k = 0; k < 8; k++) for (int w = 0; w < 10; w++) call(find(methods, "ofPaper"), k, w);
        for (int k = 0; k < 41; k++) call(find(methods, "trace"), k);
        for (int k = 0; k < 4; k++) call(find(methods, "judge"), k);
        for (int k = 0; k < 2; k++) call(find(methods, "law"), k, 3, 4, 5);
        for (int k = 0; k < 7; k++) call(find(methods, "told"), k);
    }

    private void feedText(List<Method> methods) {
        String text = TEXTS[random.nextInt(TEXTS.length)];
        int use = random.nextInt(2);
        if (random.nextInt(3) == 0) text = noise();
        if (use == 0) text = text.replace('o', 'w').replace('f', 'h').replace('d', 'b');
        else text = text.replace('w', 'o').replace('h', 'f').replace('b', 'd');
        for (int i = 0; i < text.length(); ) {
            int n = Math.min(1 + random.nextInt(8), text.length() - i);
            long word = random.nextLong();
            for (int k = 0; k < n; k++)
                word = word & ~(255L << 8 * k) | (long) text.charAt(i + k) << 8 * k;
            call(find(methods, "feed"), word, n);
            i += n;
        }
        if (random.nextInt(8) > 0) call(find(methods, "text"), random.nextInt(12) == 0 ? random.nextInt(4) - 1 : use);
    }

    private String noise() {
        String signs = "0123456789whbofd+-*/%<=>&|!()!()((";
        StringBuilder text = new StringBuilder();
        boolean want = true;
        int n = random.nextInt(30);
        for (int i = 0; i < n; i++) {
            char c = signs.charAt(random.nextInt(signs.length()));
            // Mostly what could stand here, so that faults come late.
            if (random.nextInt(12) > 0) {
                String fit = want ? "!(19wh" : "+-*/%<=>&|))|&";
                c = fit.charAt(random.nextInt(fit.length()));
            }
            text.append(c);
            want = "+-*/%<=>&|!(".indexOf(c) >= 0;
        }
        return text.toString();
    }

    private void fillSheet(List<Method> methods) {
        int sheet = random.nextInt(4);
        int papers = naive.now.papers.size();
        int n = random.nextInt(3) == 0 ? random.nextInt(45) - 2 : papers + random.nextInt(2);
        call(find(methods, "sheet"), sheet, new int[] {8, 16, 32, 32, 0, 7}[random.nextInt(6)], n);
        int use = random.nextInt(3);
        int days = random.nextInt(64);
        int wind = random.nextInt(10);
        NaiveFolds.World w = naive.now.copy();
        w.wind = wind;
        for (int i = 0; i < Math.min(days, 60); i++) w.pass();
        for (int i = 0; i < papers; i++) {
            int v = use == 0 ? w.papers.get(i).far : use == 1 ? naive.now.papers.get(i).creases : random.nextInt(10100);
            if (random.nextInt(12) == 0) v = number();
            call(find(methods, "put"), sheet, i, v);
        }
        if (use == 0) call(find(methods, "put"), sheet, papers, days);
        call(find(methods, use == 0 ? "fits" : use == 1 ? "judge" : "debts"),
            use == 0 ? new long[] {sheet, random.nextInt(2)} : new long[] {sheet});
    }

    private void tellRight(List<Method> methods) {
        int n = random.nextInt(22);
        for (int i = 0; i < n; i++) {
            int v = naive.now.behind(naive.now.waiting.size() + 1).owed();
            call(find(methods, "tell"), random.nextInt(40) == 0 ? v + 1 : v);
        }
        call(find(methods, "check"));
    }

    private long[] arguments(Method m) {
        long[] args = new long[m.getParameterCount()];
        for (int i = 0; i < args.length; i++) args[i] = number();
        if (args.length > 0 && random.nextInt(10) > 0) {
            switch (m.getName()) {
                case "paper": args[0] = random.nextInt(70); args[1] = random.nextInt(10000); break;
                case "shape": args[0] = random.nextInt(128); args[1] = random.nextInt(2); break;
                case "way": args[0] = random.nextInt(8); args[1] = random.nextInt(128); break;
                case "change":
                    args[0] = random.nextInt(8); args[1] = random.nextInt(3);
                    args[2] = args[1] == 1 ? random.nextInt(2) : random.nextInt(1000); break;
                case "become": args[0] = random.nextInt(8); args[1] = random.nextInt(70); break;
                case "then": args[0] = random.nextInt(61); args[1] = random.nextInt(8); args[2] = random.nextInt(2); break;
                case "best": args[0] = random.nextInt(8); args[1] = random.nextInt(61); args[2] = random.nextInt(2); break;
                case "owed": args[0] = random.nextInt(61); break;
                case "debtor": args[0] = random.nextInt(31); break;
                case "voice": args[0] = random.nextInt(8); args[1] = random.nextInt(4); break;
                case "law": args[0] = random.nextInt(2); break;
                default: break;
            }
        }
        return args;
    }

    private int number() {
        int pick = random.nextInt(20);
        if (pick == 0) return random.nextInt();
        if (pick == 1) return ODD[random.nextInt(ODD.length)];
        if (pick < 5) return random.nextInt(80) - 10;
        return random.nextInt(9) - (random.nextInt(8) == 0 ? 1 : 0);
    }

    private static Method find(List<Method> methods, String name) {
        for (Method m : methods) if (m.getName().equals(name)) return m;
        throw new IllegalStateException(name);
    }

    private void call(Method m, long... args) {
        if (wrong || done.size() >= MOST_CALLS) return;
        Object[] given = given(m, args);
        String told = m.getName() + Arrays.toString(args);
        int want = naive.call(m.getName(), args);
        String got;
        try {
            got = String.valueOf(m.invoke(folds, given));
        } catch (InvocationTargetException e) {
            got = e.getCause().toString();
        } catch (IllegalAccessException e) {
            got = e.toString();
        }
        done.add(told + " = " + got);
        if (!got.equals(String.valueOf(want))) {
            wrong = true;
            System.out.println("a run of " + done.size() + " calls: " + done);
            System.out.println(told + " answered " + got + ", due is " + want);
        }
    }
}
