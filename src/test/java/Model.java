import java.math.BigInteger;
import java.util.ArrayList;
import java.util.Arrays;
import java.util.HashSet;
import java.util.List;
import java.util.Map;
import java.util.NoSuchElementException;
import java.util.PriorityQueue;
import java.util.Set;
import java.util.TreeMap;
import java.util.TreeSet;

/** The document once more, as plainly as the Java library allows: random runs are held against it. */
final class Model {
    static final class Fault extends RuntimeException {
        private static final long serialVersionUID = 1L;
        final int kind;
        final int place;

        Fault(int kind, int place) {
            this.kind = kind;
            this.place = place;
        }
    }

    static final class LawError extends RuntimeException {
        private static final long serialVersionUID = 1L;
    }

    interface Expr {
        BigInteger value(Map<String, Long> names);
    }

    record Token(String sign, int place) {
        boolean isWord() {
            return !sign.isEmpty() && Character.isLowerCase(sign.charAt(0)) && sign.charAt(0) < 128;
        }

        boolean isNumber() {
            return !sign.isEmpty() && sign.charAt(0) >= '0' && sign.charAt(0) <= '9';
        }
    }

    record Farm(String name) {
    }

    record Walker(String name, int farm, int weight, int gait, int home) {
    }

    static final Set<String> LANGUAGE = Set.of("field", "tree", "ice", "farm", "walker", "cast", "seed", "law",
        "deep", "fade", "score", "or", "and", "not", "weight", "gait", "far", "age", "snow", "own");
    static final Set<String> NAMES = Set.of("weight", "gait", "far", "deep", "age", "snow", "own");
    static final Set<String> COMPARING = Set.of("<", "<=", "=", "<>", ">=", ">");

    /** A text, told by descending through the grammar. */
    static final class Told {
        int wide = 6;
        int high = 5;
        final Set<Integer> trees = new HashSet<>();
        final Set<Integer> ice = new HashSet<>();
        final Map<Integer, Integer> ground = new TreeMap<>();
        final List<Farm> farms = new ArrayList<>();
        final List<Walker> walkers = new ArrayList<>();
        final List<Integer> cast = new ArrayList<>();
        int seed = 0;
        final Map<String, Expr> laws = new TreeMap<>();
        int knots = 0;
        int lines = 0;
        private final List<Token> tokens = new ArrayList<>();
        private int next = 0;
        private int open = 0;
        private boolean cells = false;
        private final Set<String> told = new HashSet<>();

        void tell(String text) {
            cut(text);
            while (!peek().sign().isEmpty()) {
                line();
                expect(";");
                lines++;
            }
        }

        private void cut(String text) {
            java.util.regex.Matcher found =
                java.util.regex.Pattern.compile("[ \n]+|[a-z]+|[0-9]+|<=|>=|<>|.", java.util.regex.Pattern.DOTALL).matcher(text);
            while (found.find()) {
                String sign = found.group();
                if (sign.charAt(0) != ' ' && sign.charAt(0) != '\n') {
                    tokens.add(new Token(sign, found.start()));
                }
            }
            tokens.add(new Token("", text.length()));
        }

        private Token peek() {
            return tokens.get(next);
        }

        private Token take() {
            Token token = tokens.get(next);
            if (next < tokens.size() - 1) {
                next++;
            }
            return token;
        }

        private void expect(String sign) {
            Token token = take();
            if (!token.sign().equals(sign)) {
                throw new Fault(1, token.place());
            }
        }

        private Token word() {
            Token token = take();
            if (!token.isWord() || token.sign().length() > 6 || LANGUAGE.contains(token.sign())) {
                throw new Fault(1, token.place());
            }
            return token;
        }

        private int number(int least, int most) {
            Token token = take();
            if (!token.isNumber()) {
                throw new Fault(1, token.place());
            }
            BigInteger value = new BigInteger(token.sign());
            if (value.compareTo(BigInteger.valueOf(least)) < 0 || value.compareTo(BigInteger.valueOf(most)) > 0) {
                throw new Fault(2, token.place());
            }
            return value.intValue();
        }

        private void line() {
            Token first = take();
            int place = first.place();
            switch (first.sign()) {
                case "field" -> {
                    if (!told.add("field")) {
                        throw new Fault(3, place);
                    }
                    if (cells) {
                        throw new Fault(4, place);
                    }
                    wide = number(1, 8);
                    high = number(1, 6);
                }
                case "tree", "ice" -> {
                    Set<Integer> kind = first.sign().equals("tree") ? trees : ice;
                    if (kind.size() == 12) {
                        throw new Fault(2, place);
                    }
                    int x = number(0, wide - 1);
                    int at = peek().place();
                    int cell = number(0, high - 1) * wide + x;
                    if (trees.contains(cell) || ice.contains(cell)) {
                        throw new Fault(3, at);
                    }
                    kind.add(cell);
                    cells = true;
                }
                case "farm" -> farmLine(place);
                case "walker" -> walkerLine(place);
                case "cast" -> {
                    if (!told.add("cast")) {
                        throw new Fault(3, place);
                    }
                    do {
                        if (cast.size() == 24) {
                            throw new Fault(2, peek().place());
                        }
                        cast.add(number(0, 100));
                    } while (peek().isNumber());
                }
                case "seed" -> {
                    if (!told.add("seed")) {
                        throw new Fault(3, place);
                    }
                    seed = number(0, 99999);
                }
                case "law" -> {
                    Token kind = take();
                    if (!Set.of("deep", "fade", "score").contains(kind.sign())) {
                        throw new Fault(1, kind.place());
                    }
                    if (laws.containsKey(kind.sign())) {
                        throw new Fault(3, kind.place());
                    }
                    laws.put(kind.sign(), either());
                }
                default -> throw new Fault(1, place);
            }
        }

        private void farmLine(int place) {
            if (farms.size() == 3) {
                throw new Fault(2, place);
            }
            Token name = word();
            if (farms.stream().anyMatch(f -> f.name().equals(name.sign()))) {
                throw new Fault(3, name.place());
            }
            int x = number(0, wide - 1);
            int y = number(0, high - 1);
            int xx = number(x, wide - 1);
            int yy = number(y, high - 1);
            for (int cell = 0; cell < wide * high; cell++) {
                if (cell % wide >= x && cell % wide <= xx && cell / wide >= y && cell / wide <= yy) {
                    ground.put(cell, farms.size());
                }
            }
            farms.add(new Farm(name.sign()));
            cells = true;
        }

        private void walkerLine(int place) {
            if (walkers.size() == 5) {
                throw new Fault(2, place);
            }
            Token name = word();
            if (walkers.stream().anyMatch(w -> w.name().equals(name.sign()))) {
                throw new Fault(3, name.place());
            }
            Token farm = word();
            int number = farms.indexOf(new Farm(farm.sign()));
            if (number < 0) {
                throw new Fault(4, farm.place());
            }
            int weight = number(1, 60);
            int gait = number(1, 3);
            int x = number(0, wide - 1);
            walkers.add(new Walker(name.sign(), number, weight, gait, number(0, high - 1) * wide + x));
            cells = true;
        }

        private void knot(Token token) {
            if (knots == 64) {
                throw new Fault(2, token.place());
            }
            knots++;
        }

        private Token takeKnot() {
            Token token = take();
            knot(token);
            return token;
        }

        private Expr either() {
            Expr left = both();
            while (peek().sign().equals("or")) {
                left = join(left, takeKnot().sign(), both());
            }
            return left;
        }

        private Expr both() {
            Expr left = denied();
            while (peek().sign().equals("and")) {
                left = join(left, takeKnot().sign(), denied());
            }
            return left;
        }

        private Expr denied() {
            if (peek().sign().equals("not")) {
                takeKnot();
                Expr inner = denied();
                return names -> inner.value(names).signum() == 0 ? BigInteger.ONE : BigInteger.ZERO;
            }
            Expr left = sum();
            if (COMPARING.contains(peek().sign())) {
                left = join(left, takeKnot().sign(), sum());
            }
            return left;
        }

        private Expr sum() {
            Expr left = product();
            while (peek().sign().equals("+") || peek().sign().equals("-")) {
                left = join(left, takeKnot().sign(), product());
            }
            return left;
        }

        private Expr product() {
            Expr left = part();
            while (peek().sign().equals("*") || peek().sign().equals("/")) {
                left = join(left, takeKnot().sign(), part());
            }
            return left;
        }

        private Expr part() {
            Token token = peek();
            if (token.isNumber()) {
                BigInteger value = BigInteger.valueOf(number(0, 9999));
                knot(token);
                return names -> value;
            }
            if (NAMES.contains(token.sign())) {
                takeKnot();
                return names -> BigInteger.valueOf(names.get(token.sign()));
            }
            expect("(");
            if (open == 8) {
                throw new Fault(2, token.place());
            }
            open++;
            Expr inner = either();
            expect(")");
            open--;
            return inner;
        }

        private static Expr join(Expr left, String sign, Expr right) {
            return names -> {
                BigInteger a = left.value(names);
                BigInteger b = right.value(names);
                BigInteger c = joined(a, sign, b);
                if (c.abs().compareTo(BigInteger.TEN.pow(12)) > 0) {
                    throw new LawError();
                }
                return c;
            };
        }

        private static BigInteger joined(BigInteger a, String sign, BigInteger b) {
            boolean is;
            switch (sign) {
                case "+":
                    return a.add(b);
                case "-":
                    return a.subtract(b);
                case "*":
                    return a.multiply(b);
                case "/":
                    if (b.signum() == 0) {
                        throw new LawError();
                    }
                    return a.divide(b);
                case "<":
                    is = a.compareTo(b) < 0;
                    break;
                case "<=":
                    is = a.compareTo(b) <= 0;
                    break;
                case "=":
                    is = a.equals(b);
                    break;
                case "<>":
                    is = !a.equals(b);
                    break;
                case ">=":
                    is = a.compareTo(b) >= 0;
                    break;
                case ">":
                    is = a.compareTo(b) > 0;
                    break;
                case "and":
                    is = a.signum() != 0 && b.signum() != 0;
                    break;
                default:
                    is = a.signum() != 0 || b.signum() != 0;
                    break;
            }
            return is ? BigInteger.ONE : BigInteger.ZERO;
        }
    }

    static final class Mark implements Cloneable {
        int looks;
        int cell;
        int way;
        int hour;
        int deep;
        int cover;
        int whose;
        boolean blurred;
        boolean gone;

        Mark copy() {
            try {
                return (Mark) clone();
            } catch (CloneNotSupportedException e) {
                throw new IllegalStateException(e);
            }
        }
    }

    /** What an image keeps. */
    static final class State {
        Told told;
        int[] at;
        int[] steps;
        int[] boots;
        List<Mark> marks = new ArrayList<>();
        int hour;
        int snow;
        int[] debts;
        int winters;
        long number;

        State(Told told) {
            this.told = told;
            debts = new int[told.farms.size()];
            number = told.seed;
            home();
        }

        State(State s) {
            told = s.told;
            at = s.at.clone();
            steps = s.steps.clone();
            boots = s.boots.clone();
            s.marks.forEach(m -> marks.add(m.copy()));
            hour = s.hour;
            snow = s.snow;
            debts = s.debts.clone();
            winters = s.winters;
            number = s.number;
        }

        void home() {
            int n = told.walkers.size();
            at = new int[n];
            steps = new int[n];
            boots = new int[n];
            for (int w = 0; w < n; w++) {
                at[w] = told.walkers.get(w).home();
                boots[w] = w;
            }
            marks.clear();
            snow = 0;
        }

        int far(int a, int b) {
            return Math.abs(a % told.wide - b % told.wide) + Math.abs(a / told.wide - b / told.wide);
        }

        Long law(String kind, int walker, int cell, int deep, int age) {
            Expr law = told.laws.get(kind);
            if (law == null) {
                return null;
            }
            Walker w = told.walkers.get(walker);
            boolean own = told.ground.containsKey(cell) && told.ground.get(cell) == w.farm();
            try {
                return law.value(Map.of("weight", (long) w.weight(), "gait", (long) w.gait(),
                    "far", (long) far(cell, w.home()), "deep", (long) deep, "age", (long) age,
                    "snow", (long) snow, "own", own ? 1L : 0L)).longValueExact();
            } catch (LawError e) {
                return null;
            }
        }

        Long law(String kind, Mark m) {
            return law(kind, m.looks, m.cell, m.deep, hour - m.hour);
        }

        static int bound(Long value, int least, int without) {
            return value == null ? without : value < least ? least : value > 99 ? 99 : value.intValue();
        }

        int read(int cell) {
            int found = -1;
            for (int i = 0; i < marks.size(); i++) {
                Mark m = marks.get(i);
                if (m.cell == cell && !m.gone && m.cover == 0) {
                    found = i;
                }
            }
            return found;
        }

        int beside(int cell, int way) {
            int x = cell % told.wide + new int[] {0, 1, 0, -1}[way];
            int y = cell / told.wide + new int[] {-1, 0, 1, 0}[way];
            return x < 0 || y < 0 || x >= told.wide || y >= told.high ? -1 : y * told.wide + x;
        }

        void passHour() {
            for (Mark m : marks) {
                if (!m.gone && m.cover == 0) {
                    sink(m, bound(law("fade", m), 0, 0));
                }
            }
            hour++;
        }

        boolean sink(Mark m, int n) {
            m.deep -= n;
            if (m.deep <= 0) {
                m.deep = 0;
                m.gone = true;
            }
            return m.gone;
        }

        void fall(int n) {
            marks.forEach(m -> m.cover += n);
            snow = Math.min(9999, snow + n);
        }

        int thaw(int n) {
            int gone = 0;
            for (Mark m : marks) {
                if (!m.gone) {
                    int cover = Math.min(n, m.cover);
                    m.cover -= cover;
                    if (n > cover && sink(m, n - cover)) {
                        gone++;
                    }
                }
            }
            snow = Math.max(0, snow - n);
            return gone;
        }

        int draw() {
            number = (number * 1103515245L + 12345L) % (1L << 31);
            return (int) (number / 65536);
        }

        int night() {
            int fell = 0;
            switch (draw() % 3) {
                case 0:
                    fell = 1 + draw() % 9;
                    fall(fell);
                    break;
                case 1:
                    fell = -1 - draw() % 5;
                    thaw(-fell);
                    break;
                default:
                    break;
            }
            passHour();
            return fell;
        }

        int score(int farm) {
            int sum = 0;
            for (int cell : told.ground.keySet()) {
                int read = read(cell);
                if (told.ground.get(cell) == farm && read >= 0) {
                    Mark m = marks.get(read);
                    if (!m.blurred && told.walkers.get(m.looks).farm() != farm) {
                        sum += bound(law("score", m), 0, 1);
                    }
                }
            }
            return sum;
        }

        List<Integer> allRead() {
            List<Integer> read = new ArrayList<>();
            for (int i = 0; i < marks.size(); i++) {
                if (read(marks.get(i).cell) == i) {
                    read.add(i);
                }
            }
            return read;
        }

        List<Integer> trail(int mark) {
            List<Integer> trail = new ArrayList<>(List.of(mark));
            for (int i = mark - 1; i >= 0; i--) {
                Mark last = marks.get(trail.get(trail.size() - 1));
                Mark m = marks.get(i);
                if (!m.gone && m.looks == last.looks && far(m.cell, last.cell) <= told.walkers.get(m.looks).gait()) {
                    trail.add(i);
                }
            }
            return trail;
        }

        List<Integer> forged() {
            List<Integer> forged = new ArrayList<>();
            for (int i : allRead()) {
                Mark m = marks.get(i);
                Walker w = told.walkers.get(m.looks);
                boolean closes = far(m.cell, w.home()) <= w.gait() || trail(i).size() > 1;
                for (int cell = 0; cell < told.wide * told.high; cell++) {
                    closes |= (told.trees.contains(cell) || told.ice.contains(cell)) && far(m.cell, cell) <= w.gait();
                }
                if (!m.blurred && !closes) {
                    forged.add(i);
                }
            }
            return forged;
        }
    }

    record Claim(int cell, int walker, int from, int to, int strikes) {
    }

    private String tape = "";
    private int fault = 0;
    private int place = -1;
    private State now = new State(new Told());
    private State image = null;
    private final List<State> before = new ArrayList<>();
    private final List<Claim> claims = new ArrayList<>();
    private int known = -1;

    int feed(int a, int b, int c, int d, int e) {
        if (tape.length() + 20 > 700) {
            return -1;
        }
        StringBuilder text = new StringBuilder(tape);
        for (int four : new int[] {a, b, c, d, e}) {
            for (int shift = 24; shift >= 0; shift -= 8) {
                text.append((char) (four >>> shift & 255));
            }
        }
        tape = text.toString();
        return tape.length();
    }

    int text(int n) {
        if (n < 0 || n > tape.length()) {
            return -2;
        }
        String text = tape.substring(0, n);
        tape = "";
        Told told = new Told();
        try {
            told.tell(text);
        } catch (Fault f) {
            fault = f.kind;
            place = f.place;
            return -1;
        }
        fault = 0;
        place = -1;
        now = new State(told);
        image = null;
        before.clear();
        claims.clear();
        known = -1;
        return told.lines;
    }

    int fault(int what) {
        return what == 0 ? fault : what == 1 ? place : -1;
    }

    private static int letters(String name) {
        int bits = 0;
        for (int i = 0; i < 6; i++) {
            bits = bits * 32 + (i < name.length() ? name.charAt(i) - 96 : 0);
        }
        return bits;
    }

    int named(int what, int letters) {
        List<String> names = new ArrayList<>();
        if (what == 0) {
            now.told.farms.forEach(f -> names.add(f.name()));
        } else if (what == 1) {
            now.told.walkers.forEach(w -> names.add(w.name()));
        }
        for (int i = 0; i < names.size(); i++) {
            if (letters(names.get(i)) == letters) {
                return i;
            }
        }
        return -1;
    }

    private boolean isWalker(int w) {
        return w >= 0 && w < now.told.walkers.size();
    }

    private boolean isFarm(int f) {
        return f >= 0 && f < now.told.farms.size();
    }

    private int cells() {
        return now.told.wide * now.told.high;
    }

    private boolean isCell(int c) {
        return c >= 0 && c < cells();
    }

    private boolean isMark(int m) {
        return m >= 0 && m < now.marks.size();
    }

    private static boolean in(int n, int least, int most) {
        return n >= least && n <= most;
    }

    int look(int walker, int what) {
        if (!isWalker(walker)) {
            throw new IndexOutOfBoundsException();
        }
        Walker w = now.told.walkers.get(walker);
        return switch (what) {
            case 0 -> now.at[walker];
            case 1 -> w.farm();
            case 2 -> now.steps[walker];
            case 3 -> now.boots[walker];
            case 4 -> w.home();
            default -> throw new NoSuchElementException();
        };
    }

    int cell(int cell, int what) {
        if (!isCell(cell)) {
            return -2;
        }
        return switch (what) {
            case 0 -> now.told.ground.getOrDefault(cell, -1);
            case 1 -> now.told.trees.contains(cell) ? 1 : now.told.ice.contains(cell) ? 2 : 0;
            case 2 -> (int) now.marks.stream().filter(m -> !m.gone && m.cell == cell).count();
            case 3 -> now.read(cell);
            default -> -2;
        };
    }

    int mark(int mark, int what) {
        if (!isMark(mark)) {
            return -1;
        }
        Mark m = now.marks.get(mark);
        return switch (what) {
            case 0 -> m.looks;
            case 1 -> m.cell;
            case 2 -> m.way;
            case 3 -> m.hour;
            case 4 -> m.deep;
            case 5 -> m.cover;
            case 6 -> m.whose;
            case 7 -> m.blurred ? 1 : 0;
            default -> -1;
        };
    }

    long law(int what, int which) {
        Long value = null;
        if ((what == 0 || what == 1) && isMark(which) && !now.marks.get(which).gone) {
            value = now.law(what == 0 ? "fade" : "score", now.marks.get(which));
        } else if (what == 2 && isWalker(which)) {
            value = now.law("deep", which, now.at[which], 0, 0);
        }
        return value == null ? Long.MIN_VALUE : value;
    }

    private void remember() {
        before.add(new State(now));
        if (before.size() > 20) {
            before.remove(0);
        }
    }

    int step(int walker, int way) {
        if (!isWalker(walker) || !in(way, 0, 3)) {
            return -1;
        }
        int to = now.beside(now.at[walker], way);
        Walker w = now.told.walkers.get(walker);
        boolean leaves = to >= 0 && (now.steps[walker] + 1) % w.gait() == 0
            && !now.told.trees.contains(to) && !now.told.ice.contains(to);
        if (to < 0 || (leaves && now.marks.size() == 90)) {
            return -2;
        }
        remember();
        now.at[walker] = to;
        now.steps[walker]++;
        if (leaves) {
            Mark m = new Mark();
            m.looks = now.boots[walker];
            m.whose = walker;
            m.cell = to;
            m.way = way;
            m.hour = now.hour;
            m.deep = State.bound(now.law("deep", walker, to, 0, 0), 1, w.weight());
            now.marks.add(m);
        }
        return to;
    }

    boolean boots(int walker, int whose) {
        if (!isWalker(walker) || !isWalker(whose) || now.boots[walker] == whose) {
            return false;
        }
        remember();
        now.boots[walker] = whose;
        return true;
    }

    int fox(int cell, int way, int n) {
        if (!isCell(cell) || !in(way, 0, 3) || !in(n, 1, 8)) {
            return -1;
        }
        State old = new State(now);
        int blurred = 0;
        for (int at = cell, i = 0; i < n && at >= 0; at = now.beside(at, way), i++) {
            int read = now.read(at);
            if (read >= 0 && !now.marks.get(read).blurred) {
                now.marks.get(read).blurred = true;
                blurred++;
            }
        }
        if (blurred > 0) {
            before.add(old);
            if (before.size() > 20) {
                before.remove(0);
            }
        }
        return blurred;
    }

    int hours(int n) {
        if (!in(n, 0, 99) || now.hour + n > 9999) {
            return -1;
        }
        for (int i = 0; i < n; i++) {
            now.passHour();
            before.clear();
        }
        return now.hour;
    }

    int fall(int n) {
        if (!in(n, 1, 99)) {
            return -1;
        }
        now.fall(n);
        before.clear();
        return now.snow;
    }

    int thaw(int n) {
        if (!in(n, 1, 99)) {
            return -1;
        }
        before.clear();
        return now.thaw(n);
    }

    int night() {
        if (now.hour == 9999) {
            return -100;
        }
        before.clear();
        return now.night();
    }

    int winter() {
        for (int f = 0; f < now.debts.length; f++) {
            now.debts[f] += now.score(f);
        }
        now.home();
        before.clear();
        return ++now.winters;
    }

    int read(int cell) {
        if (!isCell(cell)) {
            return -1;
        }
        int read = now.read(cell);
        return read < 0 ? -2 : now.marks.get(read).blurred ? -3 : now.marks.get(read).looks;
    }

    int score(int farm, int what) {
        return !isFarm(farm) || !in(what, 0, 1) ? -1 : what == 0 ? now.score(farm) : now.debts[farm];
    }

    int ahead() {
        int best = -1;
        for (int f = now.debts.length - 1; f >= 0; f--) {
            if (best < 0 || now.debts[f] + now.score(f) >= now.debts[best] + now.score(best)) {
                best = f;
            }
        }
        return best;
    }

    int claim(int cell, int walker, int from, int to) {
        if (!isCell(cell) || !isWalker(walker) || !in(from, 0, 9999) || !in(to, from, 9999) || claims.size() == 24) {
            return -1;
        }
        claims.add(new Claim(cell, walker, from, to, -1));
        return claims.size() - 1;
    }

    int strike(int claim) {
        if (!in(claim, 0, claims.size() - 1) || claims.size() == 24) {
            return -1;
        }
        claims.add(new Claim(0, 0, 0, 0, claim));
        return claims.size() - 1;
    }

    boolean known(int n) {
        if (!in(n, -1, claims.size())) {
            return false;
        }
        known = n;
        return true;
    }

    private int knownSize() {
        return known < 0 ? claims.size() : known;
    }

    private boolean struck(int claim) {
        for (int i = claim + 1; i < knownSize(); i++) {
            if (claims.get(i).strikes() == claim && !struck(i)) {
                return true;
            }
        }
        return false;
    }

    int judged() {
        for (int i = 0; i < knownSize(); i++) {
            Claim c = claims.get(i);
            if (c.strikes() < 0 && !struck(i)) {
                int read = now.read(c.cell());
                Mark m = read < 0 ? null : now.marks.get(read);
                if (m == null || m.blurred || m.looks != c.walker() || !in(m.hour, c.from(), c.to())) {
                    return i;
                }
            }
        }
        return -1;
    }

    int forged() {
        return now.forged().size();
    }

    private static int kth(List<Integer> list, int k) {
        return k < 0 ? -1 : k >= list.size() ? -2 : list.get(k);
    }

    int forgery(int k) {
        return kth(now.forged(), k);
    }

    int trail(int mark) {
        return !isMark(mark) || now.marks.get(mark).gone ? -1 : now.trail(mark).size();
    }

    int trailed(int mark, int k) {
        return !isMark(mark) || now.marks.get(mark).gone ? -1 : kth(now.trail(mark), k);
    }

    /** A way by its new cells, its steps and its ways: the queue's order is the document's. */
    private record Way(int fresh, List<Integer> ways, List<Integer> cells) {
    }

    private static int order(Way a, Way b) {
        if (a.fresh() != b.fresh()) {
            return Integer.compare(a.fresh(), b.fresh());
        }
        if (a.ways().size() != b.ways().size()) {
            return Integer.compare(a.ways().size(), b.ways().size());
        }
        for (int i = 0; i < a.ways().size(); i++) {
            int c = Integer.compare(a.ways().get(i), b.ways().get(i));
            if (c != 0) {
                return c;
            }
        }
        return 0;
    }

    private Way way(int from, int to) {
        PriorityQueue<Way> queue = new PriorityQueue<>(Model::order);
        Set<Integer> done = new HashSet<>();
        queue.add(new Way(0, List.of(), List.of(from)));
        while (true) {
            Way way = queue.remove();
            int at = way.cells().get(way.cells().size() - 1);
            if (at == to) {
                return way;
            }
            if (done.add(at)) {
                for (int w = 0; w < 4; w++) {
                    int next = now.beside(at, w);
                    if (next >= 0) {
                        boolean fresh = !now.told.trees.contains(next) && !now.told.ice.contains(next) && now.read(next) < 0;
                        List<Integer> ways = new ArrayList<>(way.ways());
                        ways.add(w);
                        List<Integer> cells = new ArrayList<>(way.cells());
                        cells.add(next);
                        queue.add(new Way(way.fresh() + (fresh ? 1 : 0), ways, cells));
                    }
                }
            }
        }
    }

    int quiet(int from, int to, int what) {
        if (!isCell(from) || !isCell(to) || !in(what, 0, 1)) {
            return -1;
        }
        Way way = way(from, to);
        return what == 0 ? way.fresh() : way.ways().size();
    }

    int hushed(int from, int to, int k) {
        return !isCell(from) || !isCell(to) ? -1 : kth(way(from, to).cells(), k);
    }

    private int odds(int hour) {
        return hour < now.told.cast.size() ? now.told.cast.get(hour) : 0;
    }

    private BigInteger above(int hour, int k) {
        BigInteger dry = BigInteger.ONE;
        for (int i = 0; i < k; i++) {
            dry = dry.multiply(BigInteger.valueOf(100 - odds(hour + i)));
        }
        return BigInteger.valueOf(100).pow(k).subtract(dry);
    }

    int covered(int hour, int k, int what) {
        if (!in(hour, 0, 23) || !in(k, 1, 4) || !in(what, 0, 1)) {
            return -1;
        }
        BigInteger a = above(hour, k);
        BigInteger b = BigInteger.valueOf(100).pow(k);
        return (what == 0 ? a : b).divide(a.gcd(b)).intValueExact();
    }

    int best(int from, int to, int k) {
        if (!in(from, 0, 23) || !in(to, from, 23) || !in(k, 1, 4)) {
            return -1;
        }
        int best = to;
        for (int h = to; h >= from; h--) {
            if (above(h, k).compareTo(above(best, k)) >= 0) {
                best = h;
            }
        }
        return best;
    }

    private int gain(int own, int other) {
        int all = above(own, 2).intValueExact();
        return other < own ? all / 2 : all;
    }

    private List<Integer> allRests(int hour, int n) {
        List<Integer> rests = new ArrayList<>();
        for (int a = hour; a < hour + n; a++) {
            for (int b = hour; b < hour + n; b++) {
                boolean rest = true;
                for (int c = hour; c < hour + n; c++) {
                    rest &= gain(c, b) <= gain(a, b) && gain(c, a) <= gain(b, a);
                }
                if (rest) {
                    rests.add(100 * a + b);
                }
            }
        }
        return rests;
    }

    private static boolean waits(int hour, int n) {
        return in(hour, 0, 23) && in(n, 1, 6) && hour + n - 1 <= 23;
    }

    int rests(int hour, int n) {
        return waits(hour, n) ? allRests(hour, n).size() : -1;
    }

    int rest(int hour, int n, int k) {
        return waits(hour, n) ? kth(allRests(hour, n), k) : -1;
    }

    private Set<Integer> seen(int cell) {
        Set<Integer> seen = new TreeSet<>(List.of(cell));
        for (int way = 0; way < 4; way++) {
            for (int at = now.beside(cell, way); at >= 0 && !now.told.trees.contains(at); at = now.beside(at, way)) {
                seen.add(at);
            }
        }
        return seen;
    }

    long sees(int cell) {
        return !isCell(cell) || now.told.trees.contains(cell) ? -1 : seen(cell).stream().mapToLong(c -> 1L << c).sum();
    }

    private boolean isGround(long ground) {
        boolean is = ground >= 0;
        for (int c = 0; c < 63; c++) {
            is &= (ground >> c & 1) == 0 || (isCell(c) && !now.told.trees.contains(c));
        }
        return is;
    }

    private List<Integer> choose(long ground, List<Integer> taken, int more) {
        if (more == 0) {
            return ground == 0 ? taken : null;
        }
        for (int c = taken.isEmpty() ? 0 : taken.get(taken.size() - 1) + 1; c < cells(); c++) {
            if (!now.told.trees.contains(c)) {
                List<Integer> longer = new ArrayList<>(taken);
                longer.add(c);
                List<Integer> found = choose(ground & ~sees(c), longer, more - 1);
                if (found != null) {
                    return found;
                }
            }
        }
        return null;
    }

    private List<Integer> choose(long ground) {
        List<Integer> found = null;
        for (int n = 0; n <= 3 && found == null; n++) {
            found = choose(ground, List.of(), n);
        }
        return found;
    }

    int umpires(long ground) {
        if (!isGround(ground)) {
            return -1;
        }
        List<Integer> found = choose(ground);
        return found == null ? -2 : found.size();
    }

    int umpire(long ground, int k) {
        if (!isGround(ground) || k < 0) {
            return -1;
        }
        List<Integer> found = choose(ground);
        return found == null ? -2 : kth(found, k);
    }

    int below(int n) {
        if (!in(n, 0, 999)) {
            return -1;
        }
        State s = new State(now);
        s.thaw(n);
        return s.allRead().size();
    }

    private List<Integer> covers() {
        Set<Integer> covers = new TreeSet<>();
        now.marks.stream().filter(m -> !m.gone).forEach(m -> covers.add(m.cover));
        return new ArrayList<>(covers);
    }

    int layers() {
        return covers().size();
    }

    int layer(int k) {
        return kth(covers(), k);
    }

    int chance(int seed, int n, int farm, int bound) {
        if (seed < 0 || !in(n, 1, 9) || !isFarm(farm) || !in(bound, 0, 9999) || now.hour + n > 9999) {
            return -1;
        }
        int hits = 0;
        long number = seed;
        for (int i = 0; i < 10; i++) {
            State s = new State(now);
            s.number = number;
            for (int j = 0; j < n; j++) {
                s.night();
            }
            number = s.number;
            hits += s.score(farm) >= bound ? 1 : 0;
        }
        return hits;
    }

    int tried(int farm, int what, int i) {
        boolean fits = what == 1 ? isWalker(i) : what == 4 ? in(i, 0, 99) : in(what, 0, 3) && i == 0;
        if (!isFarm(farm) || !fits) {
            return -1;
        }
        State s = new State(now);
        switch (what) {
            case 0 -> s.marks.forEach(m -> m.cover = 0);
            case 1 -> s.marks.removeIf(m -> m.looks == i);
            case 2 -> s.marks.forEach(m -> m.blurred = false);
            case 3 -> s.marks.forEach(m -> m.looks = m.whose);
            default -> s.thaw(i);
        }
        return s.score(farm);
    }

    int undo() {
        if (before.isEmpty()) {
            return -1;
        }
        now = before.remove(before.size() - 1);
        return before.size();
    }

    int keep() {
        image = new State(now);
        return now.hour;
    }

    int back() {
        if (image == null) {
            return -1;
        }
        now = new State(image);
        before.clear();
        return now.hour;
    }

    int count(int what) {
        int[] all = {now.told.wide, now.told.high, now.told.farms.size(), now.told.walkers.size(), now.told.knots,
            now.hour, now.snow, now.marks.size(), (int) now.marks.stream().filter(m -> !m.gone).count(),
            now.allRead().size(), now.winters, claims.size(), knownSize(), before.size()};
        return in(what, 0, all.length - 1) ? all[what] : -1;
    }

    /** For a failed run's report. */
    @Override
    public String toString() {
        return "at " + Arrays.toString(now.at) + ", hour " + now.hour + ", marks " + now.marks.size();
    }
}
