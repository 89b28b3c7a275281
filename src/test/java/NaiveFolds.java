import java.util.ArrayList;
import java.util.HashMap;
import java.util.List;
import java.util.Map;

/**
 * The document once more, written another way (kinds as Java classes, days of all papers at once,
 * everything searched by trying), so that ModelTest can hold CraneFolds against it.
 */
final class NaiveFolds {
    static final int LOW = -1000000000;
    static final int BEYOND = LOW - 1;
    static final int NONE = LOW - 2;
    static final int STATE = LOW - 3;
    static final int FULL = LOW - 4;
    static final int KIND = LOW - 5;

    static final class Refused extends RuntimeException {
        private static final long serialVersionUID = 1L;
        final int answer;
        Refused(int answer) { this.answer = answer; }
    }

    static class Plain {
        int n, m, debt, creases, far;
        boolean up;
        List<Integer> bodies = new ArrayList<>();
        int kind() { return 0; }
        int stiff() { return 8; }
        int lives() { return 4; }
        int goes(int v, int day) { return v; }
        int creases(int x) { bodies.add(10); return x + n; }
        int flies(int x) { bodies.add(11); return creases(x) * 2; }
        int rests(int x) { bodies.add(12); return x - m; }
        int tells(int x) { bodies.add(13); return flies(x) ^ rests(x); }
        final boolean livesBy(int set) { return set != 0 && wide(set) <= lives(); }
    }
    static class Bill extends Plain {
        @Override int kind() { return 1; }
        @Override int stiff() { return super.stiff() - m % 4; }
        @Override int lives() { return super.lives() + m % 3; }
        @Override int goes(int v, int day) { return 2 * v; }
        @Override int creases(int x) { bodies.add(20); return super.creases(x) * 3; }
    }
    static class Order extends Plain {
        @Override int kind() { return 2; }
        @Override int stiff() { return super.stiff() / 2; }
        @Override int lives() { return 5; }
        @Override int goes(int v, int day) { return v + wide(creases); }
        @Override int flies(int x) { bodies.add(30); return super.flies(x) - rests(1); }
    }
    static class Letter extends Plain {
        @Override int kind() { return 3; }
        @Override int stiff() { return 6; }
        @Override int lives() { return 3; }
        @Override int goes(int v, int day) { return v < thick(creases) ? 0 : v - thick(creases); }
        @Override int rests(int x) { bodies.add(40); return -super.rests(x); }
    }
    static class Demand extends Bill {
        @Override int kind() { return 4; }
        @Override int stiff() { return super.stiff() - 1; }
        @Override int tells(int x) { bodies.add(50); return super.tells(x) - creases(2); }
    }
    static class Sentence extends Order {
        @Override int kind() { return 5; }
        @Override int stiff() { return super.stiff() + m % 2; }
        @Override int goes(int v, int day) { return day % 5 == 0 ? 0 : super.goes(v, day); }
        @Override int flies(int x) { bodies.add(60); return super.flies(x + 1); }
    }
    static class Stamped extends Letter {
        @Override int kind() { return 6; }
        @Override int stiff() { return 3; }
        @Override int lives() { return 6; }
        @Override int goes(int v, int day) { return v / 2; }
        @Override int rests(int x) { bodies.add(70); return super.rests(x) ^ n; }
        @Override int tells(int x) { bodies.add(71); return flies(x) - super.tells(x); }
    }

    static Plain make(int kind) {
        return switch (kind) {
            case 0 -> new Plain();
            case 1 -> new Bill();
            case 2 -> new Order();
            case 3 -> new Letter();
            case 4 -> new Demand();
            case 5 -> new Sentence();
            default -> new Stamped();
        };
    }

    static Plain turned(Plain p, int kind, int m) {
        Plain q = make(kind);
        q.n = p.n; q.m = m; q.debt = p.debt; q.creases = p.creases; q.far = p.far; q.up = p.up;
        return q;
    }

    static final class World {
        List<Plain> papers = new ArrayList<>();
        int day, wind, z = 1;
        String tape = "";
        String[] texts = new String[2];
        List<Integer> waiting = new ArrayList<>();
        World copy() {
            World w = new World();
            for (Plain p : papers) w.papers.add(turned(p, p.kind(), p.m));
            w.day = day; w.wind = wind; w.z = z; w.tape = tape;
            w.texts = texts.clone();
            w.waiting = new ArrayList<>(waiting);
            return w;
        }
        void pass() {
            for (Plain p : papers) {
                if (!p.up) continue;
                int v = law(0, wide(p.creases), thick(p.creases), wind);
                p.far = Math.min(999, p.far + p.goes(v, day));
                p.debt = Math.max(0, p.debt - law(1, p.debt, p.far, day % 7));
            }
            day++;
        }
        World behind(int n) {
            World w = copy();
            for (int i = 0; i < n; i++) w.pass();
            return w;
        }
        int owed() {
            int sum = 0;
            for (Plain p : papers) sum += p.debt;
            return sum;
        }
        int gone() {
            int set = 0;
            for (Plain p : papers) if (p.up && p.far >= 100) set |= 1 << p.n;
            return set;
        }
        int law(int use, int a, int b, int c) {
            String text = texts[use] != null ? texts[use] : use == 0 ? "9-w+b" : "f/10";
            int v = worked(text, use == 0 ? "whb" : "ofd", new int[] {a, b, c});
            int most = use == 0 ? 99 : 999;
            return v < 0 ? 0 : v > most ? most : v;
        }
    }

    // ---- strips

    static Map<Integer, Integer> heaps(int set) {
        Map<Integer, Integer> heaps = new HashMap<>();
        int at = 0;
        boolean upward = true;
        heaps.merge(at, 1, Integer::sum);
        for (int k = 0; k < 7; k++) {
            if ((set & 1 << k) != 0) upward = !upward; else at += upward ? 1 : -1;
            heaps.merge(at, 1, Integer::sum);
        }
        return heaps;
    }
    // No place between the least and the greatest is left out, as cells go by steps of one.
    static final int[] WIDE = new int[128];
    static final int[] THICK = new int[128];
    static {
        for (int set = 0; set < 128; set++) {
            WIDE[set] = heaps(set).size();
            for (int h : heaps(set).values()) THICK[set] = Math.max(THICK[set], h);
        }
    }
    static int wide(int set) { return WIDE[set]; }
    static int thick(int set) { return THICK[set]; }

    /** All sets, those of fewer creases first, then by number. */
    static List<Integer> byCreases() {
        List<Integer> sets = new ArrayList<>();
        for (int i = 0; i < 128; i++) sets.add(i);
        sets.sort((a, b) -> Integer.bitCount(a) != Integer.bitCount(b)
            ? Integer.bitCount(a) - Integer.bitCount(b) : a - b);
        return sets;
    }

    // ---- texts

    /** -1: it is a text; else the fault. An automaton, not a grammar. */
    static int fault(String s, String names) {
        StringBuilder stack = new StringBuilder("c");
        boolean want = true;
        int digits = 0;
        for (int i = 0; i < s.length(); i++) {
            char c = s.charAt(i);
            int open = 0;
            for (int k = 0; k < stack.length(); k++) if ("!(".indexOf(stack.charAt(k)) >= 0) open++;
            if (want) {
                if (c >= '0' && c <= '9') { want = false; digits = 1; closeNots(stack); }
                else if (names.indexOf(c) >= 0) { want = false; digits = 0; closeNots(stack); }
                else if ((c == '!' || c == '(') && open < 5) { stack.append(c); if (c == '(') stack.append('c'); }
                else return i;
            } else {
                int last = stack.length() - 1;
                if (c >= '0' && c <= '9' && digits >= 1 && digits < 4) { digits++; continue; }
                digits = 0;
                if ("|&".indexOf(c) >= 0) { stack.setCharAt(last, 'c'); want = true; }
                else if ("<=>".indexOf(c) >= 0 && stack.charAt(last) == 'c') { stack.setCharAt(last, 'C'); want = true; }
                else if ("+-*/%".indexOf(c) >= 0) want = true;
                else if (c == ')' && last > 0) { stack.setLength(last - 1); closeNots(stack); }
                else return i;
            }
        }
        return want || stack.length() > 1 ? s.length() : -1;
    }
    private static void closeNots(StringBuilder stack) {
        while (stack.charAt(stack.length() - 1) == '!') stack.setLength(stack.length() - 1);
    }

    static int worked(String s, String names, int[] values) {
        for (String signs : new String[] {"|", "&", "<=>", "+-", "*/%"}) {
            int depth = 0;
            for (int i = s.length() - 1; i > 0; i--) {
                char c = s.charAt(i);
                if (c == ')') depth++;
                if (c == '(') depth--;
                if (depth == 0 && signs.indexOf(c) >= 0) {
                    int l = worked(s.substring(0, i), names, values);
                    int r = worked(s.substring(i + 1), names, values);
                    return switch (c) {
                        case '|' -> l != 0 | r != 0 ? 1 : 0;
                        case '&' -> l != 0 & r != 0 ? 1 : 0;
                        case '<' -> l < r ? 1 : 0;
                        case '=' -> l == r ? 1 : 0;
                        case '>' -> l > r ? 1 : 0;
                        case '+' -> l + r;
                        case '-' -> l - r;
                        case '*' -> l * r;
                        case '/' -> r == 0 ? 0 : (int) ((long) l / r);
                        default -> r == 0 ? 0 : (int) ((long) l % r);
                    };
                }
            }
        }
        if (s.charAt(0) == '!') return worked(s.substring(1), names, values) == 0 ? 1 : 0;
        if (s.charAt(0) == '(') return worked(s.substring(1, s.length() - 1), names, values);
        int name = names.indexOf(s.charAt(0));
        return name >= 0 ? values[name] : Integer.parseInt(s);
    }

    // ---- the object

    World now = new World();
    World image;
    int images;
    int[] told = new int[6];
    List<Integer> trace = new ArrayList<>();
    Object[] sheets = new Object[4];

    private static void ask(boolean good, int error) { if (!good) throw new Refused(error); }
    private Plain at(int paper) {
        ask(paper >= 0 && paper < now.papers.size(), BEYOND);
        return now.papers.get(paper);
    }
    private static void ask(int v, int least, int most) { ask(v >= least && v <= most, BEYOND); }
    private static int size(Object row) { return java.lang.reflect.Array.getLength(row); }
    private static int number(Object row, int i) { return java.lang.reflect.Array.getInt(row, i); }

    /** The call by its name, with its arguments. */
    int call(String name, long[] args) {
        int[] a = new int[5];
        for (int i = 0; i < args.length; i++) a[i] = (int) args[i];
        try {
            return answer(name, args.length > 0 ? args[0] : 0, a[0], a[1], a[2], a[3], a[4]);
        } catch (Refused r) {
            told[LOW - r.answer]++;
            return r.answer;
        }
    }

    private int answer(String name, long word, int a, int b, int c, int d, int e) {
        switch (name) {
            case "paper": {
                ask(a, 0, 69); ask(b, 0, 9999); ask(now.papers.size() < 8, FULL);
                Plain p = make(a / 10);
                p.n = now.papers.size(); p.m = a % 10; p.debt = b;
                now.papers.add(p);
                return p.n;
            }
            case "ofPaper": {
                Plain p = at(a); ask(b, 0, 9);
                return new int[] {p.kind(), p.m, p.debt, p.creases, p.up ? 1 : 0, p.far, wide(p.creases),
                    thick(p.creases), p.stiff(), p.livesBy(p.creases) ? 1 : 0}[b];
            }
            case "change": {
                Plain p = at(a); ask(b, 0, 2); ask(c, 0, new int[] {9999, 1, 999}[b]);
                int was = new int[] {p.debt, p.up ? 1 : 0, p.far}[b];
                if (b == 0) p.debt = c;
                if (b == 1) p.up = c == 1;
                if (b == 2) p.far = c;
                return was;
            }
            case "fold": {
                Plain p = at(a); ask(b, 0, 6);
                ask(!p.up && thick(p.creases ^ 1 << b) <= p.stiff(), STATE);
                p.creases ^= 1 << b;
                return wide(p.creases);
            }
            case "release": {
                Plain p = at(a); ask(!p.up && p.livesBy(p.creases), STATE);
                p.up = true;
                return p.debt;
            }
            case "wind": { ask(a, 0, 9); int was = now.wind; now.wind = a; return was; }
            case "become": {
                Plain p = at(a); ask(b, 0, 69);
                now.papers.set(a, turned(p, b / 10, b % 10));
                return p.kind();
            }
            case "as": {
                Plain p = at(a); ask(b, 0, 6);
                ask(make(b).getClass().isInstance(p), KIND);
                return p.m;
            }
            case "feed": {
                ask(b, 1, 8); ask(now.tape.length() + b <= 50, FULL);
                for (int i = 0; i < b; i++) { now.tape += (char) (word & 255); word >>= 8; }
                return now.tape.length();
            }
            case "text": {
                ask(a, 0, 1);
                String read = now.tape;
                now.tape = "";
                int fault = fault(read, a == 0 ? "whb" : "ofd");
                if (fault >= 0) return -10 - fault;
                now.texts[a] = read;
                return 1;
            }
            case "law": ask(a, 0, 1); return now.law(a, b, c, d);
            case "days": {
                ask(a, 1, 60); ask(now.day + a <= 9999, STATE);
                for (int i = 0; i < a; i++) now.pass();
                return now.owed();
            }
            case "loose": {
                ask(a, 1, 40); ask(now.day + a <= 9999, STATE);
                for (int i = 0; i < a; i++) {
                    now.z = now.z * 1103515245 + 12345;
                    now.wind = (now.z >>> 8) % 10;
                    now.pass();
                }
                return now.owed();
            }
            default: return answerShapes(name, a, b, c, d, e);
        }
    }

    private int answerShapes(String name, int a, int b, int c, int d, int e) {
        switch (name) {
            case "shape": ask(a, 0, 127); ask(b, 0, 1); return b == 0 ? wide(a) : thick(a);
            case "least": {
                ask(a, 1, 8); ask(b, 1, 8);
                for (int set : byCreases()) if (wide(set) <= a && thick(set) <= b) return set;
                return refuse(NONE);
            }
            case "shapes": {
                ask(a, 1, 8); ask(b, 1, 8); ask(c, 0, 1);
                List<Integer> sets = new ArrayList<>();
                for (int set = 0; set < 128; set++) if (wide(set) == a && thick(set) == b) sets.add(set);
                ask(c == 0 || !sets.isEmpty(), NONE);
                return c == 0 ? sets.size() : sets.get(0);
            }
            case "way": {
                Plain p = at(a); ask(b, 0, 127);
                java.util.Set<Integer> reached = new java.util.HashSet<>(List.of(p.creases));
                for (int folds = 0; folds <= 128; folds++) {
                    if (reached.contains(b)) return folds;
                    for (int set : new ArrayList<>(reached))
                        for (int k = 0; k < 7; k++)
                            if (thick(set ^ 1 << k) <= p.stiff()) reached.add(set ^ 1 << k);
                }
                return refuse(NONE);
            }
            case "open": {
                Plain p = at(a); ask(b, 1, 8);
                for (int set : byCreases())
                    if ((set | p.creases) == p.creases && wide(p.creases - set) >= b) return set;
                throw new IllegalStateException();
            }
            case "alike": {
                ask(a, 0, 1);
                List<Integer> pairs = new ArrayList<>();
                for (Plain p : now.papers)
                    for (Plain q : now.papers)
                        if (p.n < q.n && p.creases != q.creases && wide(p.creases) == wide(q.creases)
                            && thick(p.creases) == thick(q.creases)) pairs.add(10 * p.n + q.n);
                ask(a == 0 || !pairs.isEmpty(), NONE);
                return a == 0 ? pairs.size() : pairs.get(0);
            }
            case "then": {
                ask(a, 0, 60); at(b); ask(c, 0, 1);
                Plain p = now.behind(a).papers.get(b);
                return c == 0 ? p.far : p.debt;
            }
            case "first": {
                ask(a, 0, 1);
                World w = now.copy();
                for (int n = 0; n <= 60; n++) {
                    if (Integer.bitCount(w.gone()) > Integer.bitCount(now.gone()))
                        return a == 0 ? n : Integer.numberOfTrailingZeros(w.gone() & ~now.gone());
                    w.pass();
                }
                return refuse(NONE);
            }
            case "best": {
                Plain p = at(a); ask(b, 0, 60); ask(c, 0, 1);
                int far = -1, best = -1;
                for (int set = 127; set >= 0; set--) {
                    if (!p.livesBy(set) || thick(set) > p.stiff()) continue;
                    World w = now.copy();
                    w.papers.get(a).creases = set;
                    w.papers.get(a).up = true;
                    Plain only = w.papers.get(a);
                    w.papers.clear();
                    w.papers.add(only);
                    for (int i = 0; i < b; i++) w.pass();
                    if (only.far >= far) { far = only.far; best = set; }
                }
                ask(best >= 0, NONE);
                return c == 0 ? best : far;
            }
            case "fits": {
                ask(a, 0, 3); ask(b, 0, 1); ask(sheets[a] != null, NONE);
                int papers = now.papers.size();
                ask(size(sheets[a]) == papers + 1, NONE);
                int n = number(sheets[a], papers);
                ask(n >= 0 && n <= 60, NONE);
                int set = 0, many = 0;
                for (int wind = 0; wind < 10; wind++) {
                    World w = now.copy();
                    w.wind = wind;
                    for (int i = 0; i < n; i++) w.pass();
                    boolean so = true;
                    for (Plain p : w.papers) so &= p.far == number(sheets[a], p.n);
                    if (so) { set |= 1 << wind; many++; }
                }
                return b == 0 ? set : many;
            }
            case "owed": ask(a, 0, 60); return now.behind(a).owed();
            case "debtor": {
                ask(a, 0, 30); ask(!now.papers.isEmpty(), NONE);
                int least = Integer.MAX_VALUE, who = -1;
                for (Plain p : now.papers) {
                    World w = now.copy();
                    w.papers.get(p.n).up = true;
                    int owed = w.behind(a).owed();
                    if (owed < least) { least = owed; who = p.n; }
                }
                return who;
            }
            case "odds": {
                Plain p = at(a); ask(b, 0, 1);
                int living = 0, all = 0;
                for (int set = 0; set < 128; set++) {
                    if (thick(set) > p.stiff()) continue;
                    all++;
                    if (p.livesBy(set)) living++;
                }
                for (int k = all; k > 1; k--)
                    if (living % k == 0 && all % k == 0) { living /= k; all /= k; }
                return b == 0 ? living : all;
            }
            default: return answerRest(name, a, b, c, d, e);
        }
    }

    private int answerRest(String name, int a, int b, int c, int d, int e) {
        switch (name) {
            case "seed": { int was = now.z; now.z = a; return was; }
            case "voice": {
                Plain p = at(a); ask(b, 0, 3);
                p.bodies.clear();
                int said = b == 0 ? p.creases(c) : b == 1 ? p.flies(c) : b == 2 ? p.rests(c) : p.tells(c);
                trace = new ArrayList<>(p.bodies.subList(0, Math.min(40, p.bodies.size())));
                return said;
            }
            case "trace": ask(a >= 0 && a < trace.size(), NONE); return trace.get(a);
            case "sheet": {
                ask(a, 0, 3); ask(List.of(0, 8, 16, 32).contains(b), BEYOND);
                if (b == 0) { sheets[a] = null; return 1; }
                ask(c >= 0, STATE); ask(c <= 40, BEYOND);
                sheets[a] = b == 8 ? new byte[c] : b == 16 ? new short[c] : new int[c];
                return 1;
            }
            case "put": {
                ask(a, 0, 3); ask(sheets[a] != null, NONE); ask(b >= 0 && b < size(sheets[a]), BEYOND);
                if (sheets[a] instanceof byte[] row) row[b] = (byte) c;
                if (sheets[a] instanceof short[] row) row[b] = (short) c;
                if (sheets[a] instanceof int[] row) row[b] = c;
                return 1;
            }
            case "move": {
                ask(a, 0, 3); ask(c, 0, 3); ask(sheets[a] != null && sheets[c] != null, NONE);
                ask(sheets[a].getClass() == sheets[c].getClass(), KIND);
                ask(e >= 0 && b >= 0 && d >= 0, BEYOND);
                ask((long) b + e <= size(sheets[a]) && (long) d + e <= size(sheets[c]), BEYOND);
                System.arraycopy(sheets[a], b, sheets[c], d, e);
                return e;
            }
            case "debts": {
                ask(a, 0, 3); ask(sheets[a] != null, NONE);
                for (int i = 0; i < size(sheets[a]); i++) {
                    int v = number(sheets[a], i);
                    if (v < 0 || v > 9999 || i >= now.papers.size()) return i;
                    now.papers.get(i).debt = v;
                }
                return size(sheets[a]);
            }
            case "judge": {
                ask(a, 0, 3); ask(sheets[a] != null, NONE);
                for (int i = 0; i < 50; i++) {
                    int told = i < size(sheets[a]) ? number(sheets[a], i) : 1000;
                    int is = i < now.papers.size() ? now.papers.get(i).creases : 1000;
                    if (told != is || told == 1000 != (i >= size(sheets[a]))) return i;
                    if (i < size(sheets[a]) != i < now.papers.size()) return i;
                }
                return -1;
            }
            case "image": image = now.copy(); return ++images;
            case "restore": ask(image != null, NONE); now = image.copy(); return now.day;
            case "tell": ask(now.waiting.size() < 20, FULL); now.waiting.add(a); return now.waiting.size();
            case "check": {
                List<Integer> waiting = now.waiting;
                now.waiting = new ArrayList<>();
                for (int i = 0; i < waiting.size(); i++)
                    if (waiting.get(i) != now.behind(i + 1).owed()) return 1 + i;
                return 0;
            }
            case "count": {
                ask(a, 0, 9);
                int up = 0;
                for (Plain p : now.papers) if (p.up) up |= 1 << p.n;
                return new int[] {now.papers.size(), now.day, now.wind, now.owed(), up, now.gone(),
                    now.tape.length(), now.waiting.size(), trace.size(), now.z}[a];
            }
            case "told": ask(a, 1, 5); return told[a];
            default: throw new IllegalStateException(name);
        }
    }

    private static int refuse(int error) { throw new Refused(error); }
}
