import java.util.Arrays;

/** Papers with debts, folded from strips of eight cells, that go; see README.md. */
public final class CraneFolds {
    private static final int LOW = -1000000000;
    // Errors are kept as how far they lie below LOW.
    private static final int BEYOND = 1;
    private static final int NONE = 2;
    private static final int STATE = 3;
    private static final int FULL = 4;
    private static final int KIND = 5;
    private static final int ERRORS = 6;

    private static final int PAPER = 0;
    private static final int BILL = 1;
    private static final int ORDER = 2;
    private static final int LETTER = 3;
    private static final int DEMAND = 4;
    private static final int SENTENCE = 5;
    private static final int STAMPED = 6;
    private static final int KINDS = 7;
    private static final int[] ABOVE = {-1, PAPER, PAPER, PAPER, BILL, ORDER, LETTER};

    private static final int CELLS = 8;
    private static final int CREASES = 7;
    private static final int SETS = 128;
    private static final int MOST_PAPERS = 8;
    private static final int MOST_KM = 69;
    private static final int MOST_DEBT = 9999;
    private static final int MOST_FAR = 999;
    private static final int MOST_DAY = 9999;
    private static final int MOST_WIND = 9;
    private static final int GONE_FROM = 100;
    private static final int MOST_BEHIND = 60;
    private static final int MOST_DEBTOR = 30;
    private static final int MOST_LOOSE = 40;

    private static final int GOING = 0;
    private static final int LAPSE = 1;
    private static final int USES = 2;
    private static final int MOST_GOING = 99;
    private static final int MOST_LAPSE = 999;
    private static final int TAPE = 50;
    private static final int MOST_OPEN = 5;
    private static final int MOST_DIGITS = 4;

    private static final int ACTS = 4;
    private static final int MOST_TRACE = 40;
    private static final int SHEETS = 4;
    private static final int MOST_NUMBERS = 40;
    private static final int MOST_WAITING = 20;

    private final int[] errors = new int[ERRORS];
    private final Sheet[] sheets = new Sheet[SHEETS];
    private final Strips strips;
    private final Desk desk;
    private final Desk kept;
    private final Thoughts thoughts;
    private final Reader reader;
    private final Voices voices;
    private int images;

    public CraneFolds() {
        for (int i = 0; i < SHEETS; i++) {
            sheets[i] = new Sheet();
        }
        strips = new Strips();
        desk = new Desk();
        kept = new Desk();
        thoughts = new Thoughts();
        reader = new Reader();
        voices = new Voices();
        images = 0;
    }

    // ---- papers, creases

    public int paper(int km, int debt) {
        if (!within(km, 0, MOST_KM) || !within(debt, 0, MOST_DEBT)) {
            return fail(BEYOND);
        }
        if (desk.size >= MOST_PAPERS) {
            return fail(FULL);
        }
        return desk.lay(km, debt);
    }

    public int ofPaper(int paper, int what) {
        if (!desk.has(paper) || !within(what, 0, 9)) {
            return fail(BEYOND);
        }
        Paper one = desk.papers[paper];
        switch (what) {
            case 0: return one.kind;
            case 1: return one.m;
            case 2: return one.debt;
            case 3: return one.creases;
            case 4: return one.up ? 1 : 0;
            case 5: return one.far;
            case 6: return strips.wide[one.creases];
            case 7: return strips.thick[one.creases];
            case 8: return one.stiff();
            default: return strips.live(one, one.creases) ? 1 : 0;
        }
    }

    public int change(int paper, int what, int v) {
        if (!desk.has(paper) || !within(what, 0, 2) || !within(v, 0, mostOf(what))) {
            return fail(BEYOND);
        }
        Paper one = desk.papers[paper];
        int was;
        if (what == 0) {
            was = one.debt;
            one.debt = v;
        } else if (what == 1) {
            was = one.up ? 1 : 0;
            one.up = v == 1;
        } else {
            was = one.far;
            one.far = v;
        }
        return was;
    }

    public int fold(int paper, int crease) {
        if (!desk.has(paper) || !within(crease, 0, CREASES - 1)) {
            return fail(BEYOND);
        }
        Paper one = desk.papers[paper];
        int folded = one.creases ^ 1 << crease;
        if (one.up || strips.thick[folded] > one.stiff()) {
            return fail(STATE);
        }
        one.creases = folded;
        return strips.wide[folded];
    }

    public int release(int paper) {
        if (!desk.has(paper)) {
            return fail(BEYOND);
        }
        Paper one = desk.papers[paper];
        if (one.up || !strips.live(one, one.creases)) {
            return fail(STATE);
        }
        one.up = true;
        return one.debt;
    }

    public int wind(int v) {
        if (!within(v, 0, MOST_WIND)) {
            return fail(BEYOND);
        }
        int was = desk.wind;
        desk.wind = v;
        return was;
    }

    public int become(int paper, int km) {
        if (!desk.has(paper) || !within(km, 0, MOST_KM)) {
            return fail(BEYOND);
        }
        Paper one = desk.papers[paper];
        int was = one.kind;
        one.kind = km / 10;
        one.m = km % 10;
        return was;
    }

    public int as(int paper, int kind) {
        if (!desk.has(paper) || !within(kind, 0, KINDS - 1)) {
            return fail(BEYOND);
        }
        Paper one = desk.papers[paper];
        if (!isOfKind(one.kind, kind)) {
            return fail(KIND);
        }
        return one.m;
    }

    // ---- texts

    public int feed(long word, int n) {
        if (!within(n, 1, 8)) {
            return fail(BEYOND);
        }
        if (desk.fed + n > TAPE) {
            return fail(FULL);
        }
        for (int i = 0; i < n; i++) {
            desk.tape[desk.fed + i] = (int) (word >>> 8 * i & 255);
        }
        desk.fed += n;
        return desk.fed;
    }

    public int text(int use) {
        if (!within(use, 0, USES - 1)) {
            return fail(BEYOND);
        }
        boolean read = reader.read(desk.tape, desk.fed, use);
        desk.fed = 0;
        if (!read) {
            return -10 - reader.place;
        }
        desk.texts[use].copyFrom(reader.made);
        return 1;
    }

    public int law(int use, int a, int b, int c) {
        if (!within(use, 0, USES - 1)) {
            return fail(BEYOND);
        }
        return desk.gives(use, a, b, c);
    }

    // ---- days

    public int days(int n) {
        if (!within(n, 1, MOST_BEHIND)) {
            return fail(BEYOND);
        }
        if (desk.day + n > MOST_DAY) {
            return fail(STATE);
        }
        thoughts.pass(desk, strips, n);
        return desk.debtOfAll();
    }

    public int loose(int n) {
        if (!within(n, 1, MOST_LOOSE)) {
            return fail(BEYOND);
        }
        if (desk.day + n > MOST_DAY) {
            return fail(STATE);
        }
        for (int i = 0; i < n; i++) {
            desk.wind = desk.draw() % 10;
            thoughts.pass(desk, strips, 1);
        }
        return desk.debtOfAll();
    }

    // ---- shapes

    public int shape(int creases, int what) {
        if (!within(creases, 0, SETS - 1) || !within(what, 0, 1)) {
            return fail(BEYOND);
        }
        return what == 0 ? strips.wide[creases] : strips.thick[creases];
    }

    public int least(int x, int y) {
        if (!within(x, 1, CELLS) || !within(y, 1, CELLS)) {
            return fail(BEYOND);
        }
        return orNone(strips.fewestCreases(x, y));
    }

    public int shapes(int x, int y, int what) {
        if (!within(x, 1, CELLS) || !within(y, 1, CELLS) || !within(what, 0, 1)) {
            return fail(BEYOND);
        }
        return what == 0 ? strips.howMany(x, y) : orNone(strips.leastOf(x, y));
    }

    public int way(int paper, int creases) {
        if (!desk.has(paper) || !within(creases, 0, SETS - 1)) {
            return fail(BEYOND);
        }
        Paper one = desk.papers[paper];
        return orNone(strips.fewestFolds(one.creases, creases, one.stiff()));
    }

    public int open(int paper, int x) {
        if (!desk.has(paper) || !within(x, 1, CELLS)) {
            return fail(BEYOND);
        }
        return strips.fewestUnfolded(desk.papers[paper].creases, x);
    }

    public int alike(int what) {
        if (!within(what, 0, 1)) {
            return fail(BEYOND);
        }
        int pairs = 0;
        int earliest = -1;
        for (int i = 0; i < desk.size; i++) {
            for (int j = i + 1; j < desk.size; j++) {
                if (strips.lookAlike(desk.papers[i].creases, desk.papers[j].creases)) {
                    pairs++;
                    earliest = earliest < 0 ? 10 * i + j : earliest;
                }
            }
        }
        return what == 0 ? pairs : orNone(earliest);
    }

    // ---- what would be

    public int then(int n, int paper, int what) {
        if (!within(n, 0, MOST_BEHIND) || !desk.has(paper) || !within(what, 0, 1)) {
            return fail(BEYOND);
        }
        if (what == 0) {
            return thoughts.farBehind(desk, strips, paper, desk.wind, n);
        }
        return thoughts.debtBehind(desk, strips, paper, desk.papers[paper].up, n);
    }

    public int first(int what) {
        if (!within(what, 0, 1)) {
            return fail(BEYOND);
        }
        if (!thoughts.findNextGone(desk, strips)) {
            return fail(NONE);
        }
        return what == 0 ? thoughts.goneBehind : thoughts.goneNext;
    }

    public int best(int paper, int n, int what) {
        if (!desk.has(paper) || !within(n, 0, MOST_BEHIND) || !within(what, 0, 1)) {
            return fail(BEYOND);
        }
        if (!thoughts.findFarthest(desk, strips, paper, n)) {
            return fail(NONE);
        }
        return what == 0 ? thoughts.farthestSet : thoughts.farthest;
    }

    public int fits(int sheet, int what) {
        if (!within(sheet, 0, SHEETS - 1) || !within(what, 0, 1)) {
            return fail(BEYOND);
        }
        Sheet row = sheets[sheet];
        if (row.isMissing() || row.size != desk.size + 1
                || !within(row.numbers[desk.size], 0, MOST_BEHIND)) {
            return fail(NONE);
        }
        int winds = thoughts.fittingWinds(desk, strips, row.numbers, row.numbers[desk.size]);
        return what == 0 ? winds : Integer.bitCount(winds);
    }

    public int owed(int n) {
        if (!within(n, 0, MOST_BEHIND)) {
            return fail(BEYOND);
        }
        return thoughts.debtOfAllBehind(desk, strips, n);
    }

    public int debtor(int n) {
        if (!within(n, 0, MOST_DEBTOR)) {
            return fail(BEYOND);
        }
        return orNone(thoughts.bestDebtor(desk, strips, n));
    }

    public int odds(int paper, int part) {
        if (!desk.has(paper) || !within(part, 0, 1)) {
            return fail(BEYOND);
        }
        Paper one = desk.papers[paper];
        int living = strips.livingSets(one);
        int all = strips.foldableSets(one);
        int shared = commonDivisor(living, all);
        if (shared == 0) {
            return part;
        }
        return part == 0 ? living / shared : all / shared;
    }

    // ---- draws, voices, sheets, images, what is told

    public int seed(int v) {
        int was = desk.z;
        desk.z = v;
        return was;
    }

    public int voice(int paper, int act, int x) {
        if (!desk.has(paper) || !within(act, 0, ACTS - 1)) {
            return fail(BEYOND);
        }
        return voices.speak(desk.papers[paper], paper, act, x);
    }

    public int trace(int i) {
        if (!within(i, 0, voices.begun - 1)) {
            return fail(NONE);
        }
        return voices.bodies[i];
    }

    public int sheet(int sheet, int bits, int n) {
        if (!within(sheet, 0, SHEETS - 1) || bits != 0 && bits != 8 && bits != 16 && bits != 32) {
            return fail(BEYOND);
        }
        if (bits != 0 && n < 0) {
            return fail(STATE);
        }
        if (bits != 0 && n > MOST_NUMBERS) {
            return fail(BEYOND);
        }
        sheets[sheet].begin(bits, bits == 0 ? 0 : n);
        return 1;
    }

    public int put(int sheet, int i, int v) {
        if (!within(sheet, 0, SHEETS - 1)) {
            return fail(BEYOND);
        }
        Sheet row = sheets[sheet];
        if (row.isMissing()) {
            return fail(NONE);
        }
        if (!within(i, 0, row.size - 1)) {
            return fail(BEYOND);
        }
        row.numbers[i] = row.lowestBits(v);
        return 1;
    }

    public int move(int sheet, int i, int other, int j, int n) {
        if (!within(sheet, 0, SHEETS - 1) || !within(other, 0, SHEETS - 1)) {
            return fail(BEYOND);
        }
        Sheet from = sheets[sheet];
        Sheet to = sheets[other];
        if (from.isMissing() || to.isMissing()) {
            return fail(NONE);
        }
        if (from.bits != to.bits) {
            return fail(KIND);
        }
        if (!from.holds(i, n) || !to.holds(j, n)) {
            return fail(BEYOND);
        }
        System.arraycopy(from.numbers, i, to.numbers, j, n);
        return n;
    }

    public int debts(int sheet) {
        if (!within(sheet, 0, SHEETS - 1)) {
            return fail(BEYOND);
        }
        Sheet row = sheets[sheet];
        if (row.isMissing()) {
            return fail(NONE);
        }
        int set = 0;
        while (set < row.size && set < desk.size && within(row.numbers[set], 0, MOST_DEBT)) {
            desk.papers[set].debt = row.numbers[set];
            set++;
        }
        return set;
    }

    public int judge(int sheet) {
        if (!within(sheet, 0, SHEETS - 1)) {
            return fail(BEYOND);
        }
        Sheet row = sheets[sheet];
        if (row.isMissing()) {
            return fail(NONE);
        }
        int both = Math.min(row.size, desk.size);
        for (int i = 0; i < both; i++) {
            if (row.numbers[i] != desk.papers[i].creases) {
                return i;
            }
        }
        return row.size == desk.size ? -1 : both;
    }

    public int image() {
        kept.copyFrom(desk);
        images++;
        return images;
    }

    public int restore() {
        if (images == 0) {
            return fail(NONE);
        }
        desk.copyFrom(kept);
        return desk.day;
    }

    public int tell(int v) {
        if (desk.waiting >= MOST_WAITING) {
            return fail(FULL);
        }
        desk.waits[desk.waiting] = v;
        desk.waiting++;
        return desk.waiting;
    }

    public int check() {
        int wrong = thoughts.firstWrong(desk, strips);
        desk.waiting = 0;
        return wrong + 1;
    }

    public int count(int what) {
        switch (what) {
            case 0: return desk.size;
            case 1: return desk.day;
            case 2: return desk.wind;
            case 3: return desk.debtOfAll();
            case 4: return desk.upFrom(0);
            case 5: return desk.upFrom(GONE_FROM);
            case 6: return desk.fed;
            case 7: return desk.waiting;
            case 8: return voices.begun;
            case 9: return desk.z;
            default: return fail(BEYOND);
        }
    }

    public int told(int k) {
        if (!within(k, BEYOND, KIND)) {
            return fail(BEYOND);
        }
        return errors[k];
    }

    // ---- helpers of the face

    private int fail(int error) {
        if (within(error, BEYOND, KIND)) {
            errors[error]++;
        }
        return LOW - error;
    }

    private int orNone(int found) {
        return found < 0 ? fail(NONE) : found;
    }

    private static boolean within(int v, int least, int most) {
        return v >= least && v <= most;
    }

    private static int mostOf(int what) {
        if (what == 0) {
            return MOST_DEBT;
        }
        return what == 1 ? 1 : MOST_FAR;
    }

    private static boolean isOfKind(int kind, int wanted) {
        int at = kind;
        for (int i = 0; i < KINDS && at >= 0 && at < KINDS; i++) {
            if (at == wanted) {
                return true;
            }
            at = ABOVE[at];
        }
        return false;
    }

    private static int commonDivisor(int a, int b) {
        int greater = a;
        int rest = b;
        // Euclid's steps on numbers up to SETS are far fewer than SETS.
        for (int i = 0; i < SETS && rest != 0; i++) {
            int next = greater % rest;
            greater = rest;
            rest = next;
        }
        return greater;
    }

    /** One paper; its shape is looked up in Strips by its creases. */
    private static final class Paper {
        int kind;
        int m;
        int debt;
        int creases;
        boolean up;
        int far;

        Paper() {
            lay(0, 0);
        }

        void lay(int km, int owing) {
            kind = km / 10;
            m = km % 10;
            debt = owing;
            creases = 0;
            up = false;
            far = 0;
        }

        void copyFrom(Paper other) {
            kind = other.kind;
            m = other.m;
            debt = other.debt;
            creases = other.creases;
            up = other.up;
            far = other.far;
        }

        int stiff() {
            switch (kind) {
                case BILL: return 8 - m % 4;
                case ORDER: return 4;
                case LETTER: return 6;
                case DEMAND: return 8 - m % 4 - 1;
                case SENTENCE: return 4 + m % 2;
                case STAMPED: return 3;
                default: return 8;
            }
        }

        int widestLiving() {
            switch (kind) {
                case BILL:
                case DEMAND: return 4 + m % 3;
                case ORDER:
                case SENTENCE: return 5;
                case LETTER: return 3;
                case STAMPED: return 6;
                default: return 4;
            }
        }
    }

    /** The shapes of all sets of creases, laid flat once, and what is asked of them. */
    private static final class Strips {
        final int[] wide = new int[SETS];
        final int[] thick = new int[SETS];
        private final int[] heaps = new int[2 * CELLS];
        private final int[] steps = new int[SETS];
        private final int[] queue = new int[SETS];

        Strips() {
            for (int set = 0; set < SETS; set++) {
                layFlat(set);
            }
        }

        private void layFlat(int set) {
            Arrays.fill(heaps, 0);
            int place = CELLS;
            int step = 1;
            int lowest = place;
            int highest = place;
            int most = 0;
            for (int cell = 0; cell < CELLS; cell++) {
                if (cell > 0 && (set >> cell - 1 & 1) == 1) {
                    step = -step;
                } else if (cell > 0) {
                    place += step;
                }
                if (place >= 0 && place < heaps.length) {
                    heaps[place]++;
                    most = Math.max(most, heaps[place]);
                }
                lowest = Math.min(lowest, place);
                highest = Math.max(highest, place);
            }
            wide[set] = highest - lowest + 1;
            thick[set] = most;
        }

        boolean live(Paper one, int set) {
            return set != 0 && wide[set] <= one.widestLiving();
        }

        boolean lookAlike(int set, int other) {
            return set != other && wide[set] == wide[other] && thick[set] == thick[other];
        }

        int fewestCreases(int x, int y) {
            int found = -1;
            for (int set = 0; set < SETS; set++) {
                if (wide[set] <= x && thick[set] <= y && isFewer(set, found)) {
                    found = set;
                }
            }
            return found;
        }

        private boolean isFewer(int set, int found) {
            return found < 0 || Integer.bitCount(set) < Integer.bitCount(found);
        }

        int howMany(int x, int y) {
            int many = 0;
            for (int set = 0; set < SETS; set++) {
                if (wide[set] == x && thick[set] == y) {
                    many++;
                }
            }
            return many;
        }

        int leastOf(int x, int y) {
            for (int set = 0; set < SETS; set++) {
                if (wide[set] == x && thick[set] == y) {
                    return set;
                }
            }
            return -1;
        }

        int fewestFolds(int from, int to, int stiff) {
            Arrays.fill(steps, -1);
            steps[from] = 0;
            queue[0] = from;
            int end = 1;
            for (int i = 0; i < end && i < SETS; i++) {
                int set = queue[i];
                for (int k = 0; k < CREASES; k++) {
                    int next = set ^ 1 << k;
                    if (steps[next] < 0 && thick[next] <= stiff && end < SETS) {
                        steps[next] = steps[set] + 1;
                        queue[end] = next;
                        end++;
                    }
                }
            }
            return steps[to];
        }

        int fewestUnfolded(int creases, int x) {
            int found = -1;
            for (int set = 0; set <= creases; set++) {
                if ((set & ~creases) == 0 && wide[creases ^ set] >= x && isFewer(set, found)) {
                    found = set;
                }
            }
            return found;
        }

        int foldableSets(Paper one) {
            int stiff = one.stiff();
            int many = 0;
            for (int set = 0; set < SETS; set++) {
                if (thick[set] <= stiff) {
                    many++;
                }
            }
            return many;
        }

        int livingSets(Paper one) {
            int stiff = one.stiff();
            int many = 0;
            for (int set = 0; set < SETS; set++) {
                if (thick[set] <= stiff && live(one, set)) {
                    many++;
                }
            }
            return many;
        }
    }

    /** All that an image keeps. */
    private static final class Desk {
        final Paper[] papers = new Paper[MOST_PAPERS];
        final int[] tape = new int[TAPE];
        final Formula[] texts = new Formula[USES];
        final int[] waits = new int[MOST_WAITING];
        int size;
        int day;
        int wind;
        int fed;
        int waiting;
        int z;

        Desk() {
            for (int i = 0; i < MOST_PAPERS; i++) {
                papers[i] = new Paper();
            }
            for (int i = 0; i < USES; i++) {
                texts[i] = new Formula();
            }
            size = 0;
            day = 0;
            wind = 0;
            fed = 0;
            waiting = 0;
            z = 1;
        }

        void copyFrom(Desk other) {
            for (int i = 0; i < MOST_PAPERS; i++) {
                papers[i].copyFrom(other.papers[i]);
            }
            for (int i = 0; i < USES; i++) {
                texts[i].copyFrom(other.texts[i]);
            }
            System.arraycopy(other.tape, 0, tape, 0, TAPE);
            System.arraycopy(other.waits, 0, waits, 0, MOST_WAITING);
            size = other.size;
            day = other.day;
            wind = other.wind;
            fed = other.fed;
            waiting = other.waiting;
            z = other.z;
        }

        boolean has(int paper) {
            return paper >= 0 && paper < size;
        }

        int lay(int km, int debt) {
            int number = size;
            if (number < MOST_PAPERS) {
                papers[number].lay(km, debt);
                size++;
            }
            return number;
        }

        int debtOfAll() {
            int sum = 0;
            for (int i = 0; i < size; i++) {
                sum += papers[i].debt;
            }
            return sum;
        }

        int upFrom(int far) {
            int set = 0;
            for (int i = 0; i < size; i++) {
                if (papers[i].up && papers[i].far >= far) {
                    set |= 1 << i;
                }
            }
            return set;
        }

        int draw() {
            z = z * 1103515245 + 12345;
            return z >>> 8;
        }

        int gives(int use, int a, int b, int c) {
            if (use == GOING) {
                int v = texts[GOING].isMissing() ? 9 - a + c : texts[GOING].workOut(a, b, c);
                return Math.max(0, Math.min(MOST_GOING, v));
            }
            int v = texts[LAPSE].isMissing() ? b / 10 : texts[LAPSE].workOut(a, b, c);
            return Math.max(0, Math.min(MOST_LAPSE, v));
        }
    }

    /** A text as steps in the order in which they are worked out. */
    private static final class Formula {
        // Steps below FIRST_NAME are numbers, those from FIRST_SIGN on are signs.
        static final int FIRST_NAME = 10000;
        static final int FIRST_SIGN = 20000;
        private final int[] steps = new int[TAPE];
        private final int[] pile = new int[TAPE];
        private int size;

        Formula() {
            size = 0;
        }

        boolean isMissing() {
            return size == 0;
        }

        void clear() {
            size = 0;
        }

        void add(int step) {
            if (size < TAPE) {
                steps[size] = step;
                size++;
            }
        }

        void copyFrom(Formula other) {
            System.arraycopy(other.steps, 0, steps, 0, TAPE);
            size = other.size;
        }

        int workOut(int a, int b, int c) {
            int top = 0;
            for (int i = 0; i < size; i++) {
                int step = steps[i];
                if (step < FIRST_SIGN) {
                    if (top < TAPE) {
                        pile[top] = valueOf(step, a, b, c);
                        top++;
                    }
                } else if (step == FIRST_SIGN + '!') {
                    if (top > 0) {
                        pile[top - 1] = pile[top - 1] == 0 ? 1 : 0;
                    }
                } else if (top > 1) {
                    top--;
                    pile[top - 1] = joined(step - FIRST_SIGN, pile[top - 1], pile[top]);
                }
            }
            return top > 0 ? pile[0] : 0;
        }

        private static int valueOf(int step, int a, int b, int c) {
            switch (step - FIRST_NAME) {
                case 0: return a;
                case 1: return b;
                case 2: return c;
                default: return step;
            }
        }

        private static int joined(int sign, int left, int right) {
            switch (sign) {
                case '|': return left != 0 || right != 0 ? 1 : 0;
                case '&': return left != 0 && right != 0 ? 1 : 0;
                case '<': return left < right ? 1 : 0;
                case '=': return left == right ? 1 : 0;
                case '>': return left > right ? 1 : 0;
                case '+': return left + right;
                case '-': return left - right;
                case '*': return left * right;
                case '/': return right == 0 ? 0 : left / right;
                case '%': return right == 0 ? 0 : left % right;
                default: return 0;
            }
        }
    }

    /** Reads the tape; where it stops is the fault, as each byte is looked at before it is taken. */
    private static final class Reader {
        private static final int COMPARING = 2;
        private static final int LEVELS = 5;
        final Formula made = new Formula();
        int place;
        private int[] tape;
        private int size;
        private int use;

        Reader() {
            tape = new int[0];
            size = 0;
            use = 0;
            place = 0;
        }

        boolean read(int[] bytes, int many, int forUse) {
            tape = bytes;
            size = Math.min(many, bytes.length);
            use = forUse;
            place = 0;
            made.clear();
            return readLevel(0, 0) && place == size;
        }

        /** Level 0 joins by |, the next ones by what binds more; behind the last stands a Q. */
        private boolean readLevel(int level, int open) {
            if (level >= LEVELS) {
                return readSingle(open);
            }
            if (!readLevel(level + 1, open)) {
                return false;
            }
            int most = level == COMPARING ? 1 : TAPE;
            for (int i = 0; i < most && levelOf(next()) == level; i++) {
                int sign = next();
                place++;
                if (!readLevel(level + 1, open)) {
                    return false;
                }
                made.add(Formula.FIRST_SIGN + sign);
            }
            return true;
        }

        private boolean readSingle(int open) {
            int sign = next();
            if (isDigit(sign)) {
                readNumber();
                return true;
            }
            if (sign == '!' || sign == '(') {
                return open < MOST_OPEN && readInside(sign, open + 1);
            }
            int name = nameOf(sign);
            if (name < 0) {
                return false;
            }
            place++;
            made.add(Formula.FIRST_NAME + name);
            return true;
        }

        private boolean readInside(int sign, int open) {
            place++;
            if (sign == '!') {
                boolean read = readSingle(open);
                made.add(Formula.FIRST_SIGN + '!');
                return read;
            }
            if (!readLevel(0, open) || next() != ')') {
                return false;
            }
            place++;
            return true;
        }

        private void readNumber() {
            int number = 0;
            for (int i = 0; i < MOST_DIGITS && isDigit(next()); i++) {
                number = 10 * number + next() - '0';
                place++;
            }
            made.add(number);
        }

        private int next() {
            return place >= 0 && place < size ? tape[place] : -1;
        }

        private int nameOf(int sign) {
            switch (sign) {
                case 'w': return use == GOING ? 0 : -1;
                case 'h': return use == GOING ? 1 : -1;
                case 'b': return use == GOING ? 2 : -1;
                case 'o': return use == LAPSE ? 0 : -1;
                case 'f': return use == LAPSE ? 1 : -1;
                case 'd': return use == LAPSE ? 2 : -1;
                default: return -1;
            }
        }

        private static boolean isDigit(int sign) {
            return sign >= '0' && sign <= '9';
        }

        private static int levelOf(int sign) {
            switch (sign) {
                case '|': return 0;
                case '&': return 1;
                case '<':
                case '=':
                case '>': return COMPARING;
                case '+':
                case '-': return 3;
                case '*':
                case '/':
                case '%': return 4;
                default: return -1;
            }
        }
    }

    /** One paper on its way; papers don't touch one another, so each is followed alone. */
    private static final class Flight {
        int far;
        int debt;
        private boolean up;
        private boolean restsEachFifth;
        private int stride;

        Flight() {
            far = 0;
            debt = 0;
            up = false;
            restsEachFifth = false;
            stride = 0;
        }

        void begin(Paper one, boolean goes) {
            far = one.far;
            debt = one.debt;
            up = goes;
            restsEachFifth = one.kind == SENTENCE;
            stride = 0;
        }

        /** What the text gives stays the same while creases and wind do. */
        void pace(int kind, int v, int wide, int thick) {
            switch (kind) {
                case BILL:
                case DEMAND:
                    stride = 2 * v;
                    break;
                case ORDER:
                case SENTENCE:
                    stride = v + wide;
                    break;
                case LETTER:
                    stride = Math.max(0, v - thick);
                    break;
                case STAMPED:
                    stride = v / 2;
                    break;
                default:
                    stride = v;
                    break;
            }
        }

        void go(int day) {
            if (up && !(restsEachFifth && day % 5 == 0)) {
                far = Math.min(MOST_FAR, far + stride);
            }
        }

        void goAndLapse(Desk desk, int day) {
            go(day);
            if (up && debt > 0) {
                debt = Math.max(0, debt - desk.gives(LAPSE, debt, far, day % 7));
            }
        }
    }

    /** What is only thought; the days that pass go the same way, and are then written down. */
    private static final class Thoughts {
        int goneBehind;
        int goneNext;
        int farthestSet;
        int farthest;
        private final Flight flight = new Flight();
        private final int[] sums = new int[MOST_WAITING];

        Thoughts() {
            goneBehind = 0;
            goneNext = 0;
            farthestSet = 0;
            farthest = 0;
        }

        void pass(Desk desk, Strips strips, int n) {
            for (int i = 0; i < desk.size; i++) {
                Paper one = desk.papers[i];
                if (one.up) {
                    one.debt = debtBehind(desk, strips, i, true, n);
                    one.far = flight.far;
                }
            }
            desk.day += n;
        }

        private void follow(Desk desk, Strips strips, Paper one, boolean up) {
            flight.begin(one, up);
            pace(desk, strips, one.kind, one.creases, desk.wind);
        }

        private void pace(Desk desk, Strips strips, int kind, int creases, int wind) {
            int wide = strips.wide[creases];
            int thick = strips.thick[creases];
            flight.pace(kind, desk.gives(GOING, wide, thick, wind), wide, thick);
        }

        int debtBehind(Desk desk, Strips strips, int paper, boolean up, int n) {
            follow(desk, strips, desk.papers[paper], up);
            for (int i = 0; i < n; i++) {
                flight.goAndLapse(desk, desk.day + i);
            }
            return flight.debt;
        }

        int farBehind(Desk desk, Strips strips, int paper, int wind, int n) {
            Paper one = desk.papers[paper];
            flight.begin(one, one.up);
            pace(desk, strips, one.kind, one.creases, wind);
            return farGone(desk.day, n);
        }

        private int farGone(int day, int n) {
            for (int i = 0; i < n; i++) {
                flight.go(day + i);
            }
            return flight.far;
        }

        boolean findNextGone(Desk desk, Strips strips) {
            goneBehind = MOST_BEHIND + 1;
            for (int i = 0; i < desk.size; i++) {
                Paper one = desk.papers[i];
                if (one.up && one.far < GONE_FROM) {
                    follow(desk, strips, one, true);
                    int behind = daysToGone(desk.day);
                    if (behind < goneBehind) {
                        goneBehind = behind;
                        goneNext = i;
                    }
                }
            }
            return goneBehind <= MOST_BEHIND;
        }

        private int daysToGone(int day) {
            int n = 0;
            while (n <= MOST_BEHIND && flight.far < GONE_FROM) {
                flight.go(day + n);
                n++;
            }
            return n;
        }

        boolean findFarthest(Desk desk, Strips strips, int paper, int n) {
            Paper one = desk.papers[paper];
            int stiff = one.stiff();
            farthest = -1;
            for (int set = 0; set < SETS; set++) {
                if (strips.live(one, set) && strips.thick[set] <= stiff) {
                    flight.begin(one, true);
                    pace(desk, strips, one.kind, set, desk.wind);
                    int far = farGone(desk.day, n);
                    if (far > farthest) {
                        farthest = far;
                        farthestSet = set;
                    }
                }
            }
            return farthest >= 0;
        }

        int fittingWinds(Desk desk, Strips strips, int[] fars, int n) {
            int winds = 0;
            for (int wind = 0; wind <= MOST_WIND; wind++) {
                boolean fit = true;
                for (int i = 0; fit && i < desk.size && i < fars.length; i++) {
                    fit = fars[i] == farBehind(desk, strips, i, wind, n);
                }
                if (fit) {
                    winds |= 1 << wind;
                }
            }
            return winds;
        }

        int debtOfAllBehind(Desk desk, Strips strips, int n) {
            int sum = 0;
            for (int i = 0; i < desk.size; i++) {
                sum += debtBehind(desk, strips, i, desk.papers[i].up, n);
            }
            return sum;
        }

        /** The owed of all is least where one alone, being up, owes most less than it would. */
        int bestDebtor(Desk desk, Strips strips, int n) {
            int found = -1;
            int most = -1;
            for (int i = 0; i < desk.size; i++) {
                boolean up = desk.papers[i].up;
                int less = 0;
                if (!up) {
                    less = desk.papers[i].debt - debtBehind(desk, strips, i, true, n);
                }
                if (less > most) {
                    most = less;
                    found = i;
                }
            }
            return found;
        }

        /** The place of the first number that waits and isn't so; -1: all are so. */
        int firstWrong(Desk desk, Strips strips) {
            Arrays.fill(sums, 0);
            for (int i = 0; i < desk.size; i++) {
                Paper one = desk.papers[i];
                follow(desk, strips, one, one.up);
                for (int n = 0; n < desk.waiting; n++) {
                    flight.goAndLapse(desk, desk.day + n);
                    sums[n] += flight.debt;
                }
            }
            for (int n = 0; n < desk.waiting; n++) {
                if (desk.waits[n] != sums[n]) {
                    return n;
                }
            }
            return -1;
        }
    }

    /** What papers say, by bodies that stand at kinds or above them. */
    private static final class Voices {
        private static final int SAYS_CREASES = 0;
        private static final int SAYS_FLIES = 1;
        private static final int SAYS_RESTS = 2;
        private static final int SAYS_TELLS = 3;
        // For each kind its bodies by act; 0 where it has none of its own.
        private static final int[] BODIES = {
            10, 11, 12, 13,
            20, 0, 0, 0,
            0, 30, 0, 0,
            0, 0, 40, 0,
            0, 0, 0, 50,
            0, 60, 0, 0,
            0, 0, 70, 71,
        };
        // The deepest voice stands far below this.
        private static final int DEEPEST = 40;
        final int[] bodies = new int[MOST_TRACE];
        int begun;
        private int kind;
        private int m;
        private int n;

        Voices() {
            begun = 0;
            kind = 0;
            m = 0;
            n = 0;
        }

        int speak(Paper one, int number, int act, int x) {
            begun = 0;
            kind = one.kind;
            m = one.m;
            n = number;
            return say(kind, act, x, 0);
        }

        private int say(int from, int act, int x, int depth) {
            if (depth >= DEEPEST) {
                return 0;
            }
            int body = bodyOf(from, act);
            if (begun < MOST_TRACE) {
                bodies[begun] = body;
                begun++;
            }
            return perform(body, x, depth + 1);
        }

        private static int bodyOf(int from, int act) {
            int at = from;
            for (int i = 0; i < KINDS && at > PAPER && at < KINDS; i++) {
                int own = BODIES[at * ACTS + act];
                if (own != 0) {
                    return own;
                }
                at = ABOVE[at];
            }
            return BODIES[act];
        }

        private int perform(int body, int x, int depth) {
            switch (body) {
                case 10: return x + n;
                case 11: return say(kind, SAYS_CREASES, x, depth) * 2;
                case 12: return x - m;
                case 13: return say(kind, SAYS_FLIES, x, depth) ^ say(kind, SAYS_RESTS, x, depth);
                case 20: return say(PAPER, SAYS_CREASES, x, depth) * 3;
                case 30: return say(PAPER, SAYS_FLIES, x, depth) - say(kind, SAYS_RESTS, 1, depth);
                case 40: return -say(PAPER, SAYS_RESTS, x, depth);
                case 50: return say(BILL, SAYS_TELLS, x, depth) - say(kind, SAYS_CREASES, 2, depth);
                case 60: return say(ORDER, SAYS_FLIES, x + 1, depth);
                case 70: return say(LETTER, SAYS_RESTS, x, depth) ^ n;
                case 71: return say(kind, SAYS_FLIES, x, depth) - say(LETTER, SAYS_TELLS, x, depth);
                default: return 0;
            }
        }
    }

    /** A row of numbers; those of 8 and 16 bits are signed, as Java's bytes and shorts are. */
    private static final class Sheet {
        final int[] numbers = new int[MOST_NUMBERS];
        int bits;
        int size;

        Sheet() {
            bits = 0;
            size = 0;
        }

        boolean isMissing() {
            return bits == 0;
        }

        void begin(int width, int n) {
            bits = width;
            size = n;
            Arrays.fill(numbers, 0);
        }

        /** Looks at the end by a difference, as a sum could wrap. */
        boolean holds(int from, int n) {
            return from >= 0 && n >= 0 && n <= size && from <= size - n;
        }

        int lowestBits(int v) {
            if (bits == 8) {
                return (byte) v;
            }
            return bits == 16 ? (short) v : v;
        }
    }
}
