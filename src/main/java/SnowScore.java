import java.util.Arrays;
import java.util.NoSuchElementException;

/** The snow keeps the score: walkers leave marks on a told field, snow covers them, farms read them. */
public final class SnowScore {
    public static final int NONE = -1;

    private static final int LACKING = -2;
    private static final int BLURRED_READING = -3;
    private static final int NO_NIGHT = -100;

    private static final int MOST_TAPED = 700;
    private static final int MOST_CELLS = 48;
    private static final int MOST_FARMS = 3;
    private static final int MOST_WALKERS = 5;
    private static final int MOST_MARKS = 90;
    private static final int MOST_CLAIMS = 24;
    private static final int MOST_UNDONE = 20;
    private static final int MOST_KNOTS = 64;
    private static final int MOST_UMPIRES = 3;
    private static final int LAST_HOUR = 9999;
    private static final int CAST_HOURS = 24;
    private static final int FOX_REACH = 8;
    private static final int WAYS = 4;
    private static final int DRAWS = 10;

    private static final int TREE_KIND = 1;
    private static final int ICE_KIND = 2;

    // The numbers by which law() asks for the laws.
    private static final int FADE_LAW = 0;
    private static final int SCORE_LAW = 1;
    private static final int DEEP_LAW = 2;
    private static final int LAWS = 3;
    // No value of a law comes near it, so that one number can stand for all errors.
    private static final long ERROR = Long.MIN_VALUE;

    // Tokens. Those of the words are their places in Lexer.WORDS; the kinds of law stand in the
    // order of the laws' numbers, and the names of E in a row.
    private static final int FIELD = 0;
    private static final int TREE = 1;
    private static final int ICE = 2;
    private static final int FARM = 3;
    private static final int WALKER = 4;
    private static final int CAST = 5;
    private static final int SEED = 6;
    private static final int LAW = 7;
    private static final int FADE = 8;
    private static final int DEEP = 10;
    private static final int WEIGHT = 11;
    private static final int GAIT = 12;
    private static final int FAR = 13;
    private static final int AGE = 14;
    private static final int SNOW = 15;
    private static final int OWN = 16;
    private static final int OR = 17;
    private static final int AND = 18;
    private static final int NOT = 19;
    private static final int WORD_COUNT = 20;
    private static final int NAME = 20;
    private static final int NUMBER = 21;
    private static final int SEMICOLON = 22;
    private static final int OPEN = 23;
    private static final int CLOSE = 24;
    private static final int LESS = 25;
    private static final int AT_MOST = 26;
    private static final int EQUAL = 27;
    private static final int UNLIKE = 28;
    private static final int AT_LEAST = 29;
    private static final int MORE = 30;
    private static final int PLUS = 31;
    private static final int MINUS = 32;
    private static final int TIMES = 33;
    private static final int BY = 34;
    private static final int NO_TOKEN = 35;
    private static final int END = 36;

    private final byte[] tape = new byte[MOST_TAPED];
    private int taped = 0;
    private Plan plan = new Plan();
    private Plan spare = new Plan();
    private final Teller teller = new Teller(spare);
    private final Reckoner reckoner = new Reckoner();
    private final Snow now = new Snow(plan, reckoner);
    private final Snow image = new Snow(plan, reckoner);
    private final Snow trial = new Snow(plan, reckoner);
    private boolean kept = false;
    private final Log log = new Log();
    private final Claims claims = new Claims();
    private final Route route = new Route();
    private final Sight sight = new Sight();

    public SnowScore() {
    }

    // ---- the text

    public int feed(int a, int b, int c, int d, int e) {
        if (taped + 20 > MOST_TAPED) {
            return NONE;
        }
        putBytes(a);
        putBytes(b);
        putBytes(c);
        putBytes(d);
        putBytes(e);
        return taped;
    }

    private void putBytes(int four) {
        for (int shift = 24; shift >= 0 && taped < MOST_TAPED; shift -= 8) {
            tape[taped] = (byte) (four >> shift);
            taped++;
        }
    }

    public int text(int n) {
        if (n < 0 || n > taped) {
            return LACKING;
        }
        taped = 0;
        // Told into the spare plan, so that a text with a fault leaves all as it was.
        teller.begin(tape, n, spare);
        for (int i = 0; i < n && teller.hasMore(); i++) {
            teller.tellLine();
        }
        if (teller.fault != 0) {
            return NONE;
        }
        Plan told = spare;
        spare = plan;
        plan = told;
        now.begin(plan);
        kept = false;
        log.size = 0;
        claims.clear();
        return teller.lines;
    }

    public int fault(int what) {
        switch (what) {
            case 0:
                return teller.fault;
            case 1:
                return teller.place;
            default:
                return NONE;
        }
    }

    // ---- what is there

    public int named(int what, int letters) {
        switch (what) {
            case 0:
                return plan.farmBy(letters);
            case 1:
                return plan.walkerBy(letters);
            default:
                return NONE;
        }
    }

    public int look(int walker, int what) throws IndexOutOfBoundsException, NoSuchElementException {
        if (!plan.hasWalker(walker)) {
            throw new IndexOutOfBoundsException("no such walker");
        }
        switch (what) {
            case 0:
                return now.at[walker];
            case 1:
                return plan.farmOf[walker];
            case 2:
                return now.steps[walker];
            case 3:
                return now.boots[walker];
            case 4:
                return plan.homes[walker];
            default:
                throw new NoSuchElementException("no such what");
        }
    }

    public int cell(int cell, int what) {
        if (!plan.hasCell(cell)) {
            return LACKING;
        }
        switch (what) {
            case 0:
                return plan.grounds[cell];
            case 1:
                return plan.kinds[cell];
            case 2:
                return now.marks.lastingIn(cell);
            case 3:
                return now.marks.readIn(cell);
            default:
                return LACKING;
        }
    }

    public int mark(int mark, int what) {
        Marks marks = now.marks;
        if (!marks.has(mark)) {
            return NONE;
        }
        switch (what) {
            case 0:
                return marks.looks[mark];
            case 1:
                return marks.cells[mark];
            case 2:
                return marks.ways[mark];
            case 3:
                return marks.born[mark];
            case 4:
                return marks.deep[mark];
            case 5:
                return marks.cover[mark];
            case 6:
                return marks.owners[mark];
            case 7:
                return marks.blurs[mark];
            default:
                return NONE;
        }
    }

    public long law(int what, int which) {
        switch (what) {
            case FADE_LAW:
            case SCORE_LAW:
                return now.marks.lasts(which) ? now.lawOfMark(what, which) : ERROR;
            case DEEP_LAW:
                return plan.hasWalker(which) ? now.deepLaw(which, now.at[which]) : ERROR;
            default:
                return ERROR;
        }
    }

    // ---- what happens

    public int step(int walker, int way) {
        if (!plan.hasWalker(walker) || !isWay(way)) {
            return NONE;
        }
        int from = now.at[walker];
        int to = plan.beside(from, way);
        if (to == NONE || (now.wouldMark(walker, to) && now.marks.size >= MOST_MARKS)) {
            return LACKING;
        }
        boolean left = now.walk(walker, to, way);
        log.noteStep(walker, from, left);
        return to;
    }

    public boolean boots(int walker, int whose) {
        if (!plan.hasWalker(walker) || !plan.hasWalker(whose) || now.boots[walker] == whose) {
            return false;
        }
        log.noteBoots(walker, now.boots[walker]);
        now.boots[walker] = whose;
        return true;
    }

    public int fox(int cell, int way, int n) {
        if (!plan.hasCell(cell) || !isWay(way) || n < 1 || n > FOX_REACH) {
            return NONE;
        }
        now.readAll();
        int[] row = log.foxRow();
        int done = 0;
        int at = cell;
        for (int i = 0; i < n && at != NONE; i++) {
            int read = now.reading[at];
            if (read != NONE && now.marks.blurs[read] == 0 && done < row.length) {
                now.marks.blurs[read] = 1;
                row[done] = read;
                done++;
            }
            at = plan.beside(at, way);
        }
        if (done > 0) {
            log.noteFox(done);
        }
        return done;
    }

    public int hours(int n) {
        if (n < 0 || n > 99 || !now.hasHoursLeft(n)) {
            return NONE;
        }
        for (int i = 0; i < n; i++) {
            now.passHour();
        }
        if (n > 0) {
            log.size = 0;
        }
        return now.hour;
    }

    public int fall(int n) {
        if (n < 1 || n > 99) {
            return NONE;
        }
        now.coverBy(n);
        log.size = 0;
        return now.snow;
    }

    public int thaw(int n) {
        if (n < 1 || n > 99) {
            return NONE;
        }
        log.size = 0;
        return now.meltBy(n);
    }

    public int night() {
        if (!now.hasHoursLeft(1)) {
            return NO_NIGHT;
        }
        log.size = 0;
        return now.passNight();
    }

    public int winter() {
        now.endWinter();
        log.size = 0;
        return now.winters;
    }

    // ---- what is read and scored

    public int read(int cell) {
        if (!plan.hasCell(cell)) {
            return NONE;
        }
        int mark = now.marks.readIn(cell);
        if (mark == NONE) {
            return LACKING;
        }
        return now.marks.blurs[mark] == 0 ? now.marks.looks[mark] : BLURRED_READING;
    }

    public int score(int farm, int what) {
        if (!plan.hasFarm(farm)) {
            return NONE;
        }
        switch (what) {
            case 0:
                return now.scoreOf(farm);
            case 1:
                return now.debts[farm];
            default:
                return NONE;
        }
    }

    public int ahead() {
        int first = NONE;
        int most = 0;
        for (int farm = 0; farm < plan.farms; farm++) {
            int sum = now.debts[farm] + now.scoreOf(farm);
            if (first == NONE || sum > most) {
                first = farm;
                most = sum;
            }
        }
        return first;
    }

    // ---- claims

    public int claim(int cell, int walker, int from, int to) {
        boolean hoursFit = from >= 0 && from <= to && to <= LAST_HOUR;
        if (!plan.hasCell(cell) || !plan.hasWalker(walker) || !hoursFit) {
            return NONE;
        }
        return claims.addClaim(cell, walker, from, to);
    }

    public int strike(int claim) {
        if (claim < 0 || claim >= claims.size) {
            return NONE;
        }
        return claims.addStrike(claim);
    }

    public boolean known(int n) {
        if (n < Claims.ALL || n > claims.size) {
            return false;
        }
        claims.knownBy = n;
        return true;
    }

    public int judged() {
        return claims.firstWrong(now);
    }

    // ---- forgeries and trails

    public int forged() {
        now.readAll();
        int forgeries = 0;
        for (int mark = 0; mark < now.marks.size; mark++) {
            if (now.isForged(mark)) {
                forgeries++;
            }
        }
        return forgeries;
    }

    public int forgery(int k) {
        if (k < 0) {
            return NONE;
        }
        now.readAll();
        int left = k;
        for (int mark = 0; mark < now.marks.size; mark++) {
            if (now.isForged(mark)) {
                if (left == 0) {
                    return mark;
                }
                left--;
            }
        }
        return LACKING;
    }

    public int trail(int mark) {
        if (!now.marks.lasts(mark)) {
            return NONE;
        }
        int length = 0;
        int at = mark;
        for (int i = 0; i < MOST_MARKS && at != NONE; i++) {
            length++;
            at = now.markBefore(at);
        }
        return length;
    }

    public int trailed(int mark, int k) {
        if (!now.marks.lasts(mark) || k < 0) {
            return NONE;
        }
        int at = mark;
        for (int i = 0; i < k && at != NONE; i++) {
            at = now.markBefore(at);
        }
        return at == NONE ? LACKING : at;
    }

    // ---- ways that leave least

    public int quiet(int from, int to, int what) {
        if (!plan.hasCell(from) || !plan.hasCell(to)) {
            return NONE;
        }
        now.readAll();
        route.find(plan, now.reading, from, to);
        switch (what) {
            case 0:
                return route.fresh;
            case 1:
                return route.steps;
            default:
                return NONE;
        }
    }

    public int hushed(int from, int to, int k) {
        if (!plan.hasCell(from) || !plan.hasCell(to) || k < 0) {
            return NONE;
        }
        now.readAll();
        route.find(plan, now.reading, from, to);
        return k <= route.steps && k < MOST_CELLS ? route.cells[k] : LACKING;
    }

    // ---- when to go

    public int covered(int hour, int k, int what) {
        if (!isCastHour(hour) || !isSpan(k)) {
            return NONE;
        }
        int above = plan.cast.odds(hour, k);
        int below = plan.cast.whole(k);
        int common = commonDivisor(above, below);
        if (common < 1) {
            return NONE;
        }
        switch (what) {
            case 0:
                return above / common;
            case 1:
                return below / common;
            default:
                return NONE;
        }
    }

    private static int commonDivisor(int a, int b) {
        int one = a;
        int other = b;
        for (int i = 0; i < 64 && other != 0; i++) {
            int left = one % other;
            one = other;
            other = left;
        }
        return one;
    }

    public int best(int from, int to, int k) {
        if (!isCastHour(from) || !isCastHour(to) || from > to || !isSpan(k)) {
            return NONE;
        }
        int found = from;
        for (int hour = from + 1; hour <= to; hour++) {
            if (plan.cast.odds(hour, k) > plan.cast.odds(found, k)) {
                found = hour;
            }
        }
        return found;
    }

    public int rests(int hour, int n) {
        if (!isWaiting(hour, n)) {
            return NONE;
        }
        int sum = 0;
        for (int first = hour; first < hour + n; first++) {
            for (int second = hour; second < hour + n; second++) {
                if (plan.cast.isRest(first, second, hour, n)) {
                    sum++;
                }
            }
        }
        return sum;
    }

    public int rest(int hour, int n, int k) {
        if (!isWaiting(hour, n) || k < 0) {
            return NONE;
        }
        int left = k;
        for (int first = hour; first < hour + n; first++) {
            for (int second = hour; second < hour + n; second++) {
                if (plan.cast.isRest(first, second, hour, n)) {
                    if (left == 0) {
                        return 100 * first + second;
                    }
                    left--;
                }
            }
        }
        return LACKING;
    }

    // ---- umpires

    public long sees(int cell) {
        if (!plan.hasCell(cell) || plan.kinds[cell] == TREE_KIND) {
            return NONE;
        }
        return sight.from(plan, cell);
    }

    public int umpires(long ground) {
        if (!sight.isGround(plan, ground)) {
            return NONE;
        }
        return sight.fewest(plan, ground);
    }

    public int umpire(long ground, int k) {
        if (!sight.isGround(plan, ground) || k < 0) {
            return NONE;
        }
        int size = sight.fewest(plan, ground);
        return k < size && k < MOST_UMPIRES ? sight.chosen[k] : LACKING;
    }

    // ---- what lies below

    public int below(int n) {
        if (n < 0 || n > 999) {
            return NONE;
        }
        trial.takeFrom(now);
        trial.meltBy(n);
        return trial.readAll();
    }

    public int layers() {
        int sum = 0;
        int cover = now.marks.coverAbove(NONE);
        for (int i = 0; i < MOST_MARKS && cover != NONE; i++) {
            sum++;
            cover = now.marks.coverAbove(cover);
        }
        return sum;
    }

    public int layer(int k) {
        if (k < 0) {
            return NONE;
        }
        int cover = now.marks.coverAbove(NONE);
        for (int i = 0; i < k && cover != NONE; i++) {
            cover = now.marks.coverAbove(cover);
        }
        return cover == NONE ? LACKING : cover;
    }

    // ---- tried otherwise

    public int chance(int seed, int n, int farm, int bound) {
        if (seed < 0 || n < 1 || n > 9 || !plan.hasFarm(farm) || bound < 0 || bound > 9999) {
            return NONE;
        }
        // Each night is an hour, and there is none behind the last hour.
        if (!now.hasHoursLeft(n)) {
            return NONE;
        }
        int reached = 0;
        long last = seed;
        for (int draw = 0; draw < DRAWS; draw++) {
            trial.takeFrom(now);
            // The ten draws share one row of numbers; begun anew they would all be alike.
            trial.lastNumber = last;
            for (int i = 0; i < n; i++) {
                trial.passNight();
            }
            last = trial.lastNumber;
            if (trial.scoreOf(farm) >= bound) {
                reached++;
            }
        }
        return reached;
    }

    public int tried(int farm, int what, int i) {
        if (!plan.hasFarm(farm) || !canTry(what, i)) {
            return NONE;
        }
        trial.takeFrom(now);
        Marks marks = trial.marks;
        switch (what) {
            case 0:
                Arrays.fill(marks.cover, 0);
                break;
            case 1:
                marks.dropLooking(i);
                break;
            case 2:
                Arrays.fill(marks.blurs, 0);
                break;
            case 3:
                System.arraycopy(marks.owners, 0, marks.looks, 0, MOST_MARKS);
                break;
            default:
                trial.meltBy(i);
                break;
        }
        return trial.scoreOf(farm);
    }

    private boolean canTry(int what, int i) {
        switch (what) {
            case 0:
            case 2:
            case 3:
                return i == 0;
            case 1:
                return plan.hasWalker(i);
            case 4:
                return i >= 0 && i <= 99;
            default:
                return false;
        }
    }

    // ---- undone, images

    public int undo() {
        if (log.size == 0) {
            return NONE;
        }
        log.takeBack(now);
        return log.size;
    }

    public int keep() {
        image.takeFrom(now);
        kept = true;
        return now.hour;
    }

    public int back() {
        if (!kept) {
            return NONE;
        }
        now.takeFrom(image);
        log.size = 0;
        return now.hour;
    }

    public int count(int what) {
        switch (what) {
            case 0:
                return plan.wide;
            case 1:
                return plan.high;
            case 2:
                return plan.farms;
            case 3:
                return plan.walkers;
            case 4:
                return plan.knots;
            case 5:
                return now.hour;
            case 6:
                return now.snow;
            case 7:
                return now.marks.size;
            case 8:
                return now.marks.lasting();
            case 9:
                return now.readAll();
            case 10:
                return now.winters;
            case 11:
                return claims.size;
            case 12:
                return claims.knownSize();
            case 13:
                return log.size;
            default:
                return NONE;
        }
    }

    // ---- what arguments can be

    private static boolean isWay(int way) {
        return way >= 0 && way < WAYS;
    }

    private static boolean isCastHour(int hour) {
        return hour >= 0 && hour < CAST_HOURS;
    }

    private static boolean isSpan(int k) {
        return k >= 1 && k <= 4;
    }

    private static boolean isWaiting(int hour, int n) {
        return isCastHour(hour) && n >= 1 && n <= 6 && hour + n <= CAST_HOURS;
    }

    /** What a text tells: nothing in it changes until the next text. */
    private static final class Plan {
        int wide;
        int high;
        final int[] kinds = new int[MOST_CELLS];
        final int[] grounds = new int[MOST_CELLS];
        int farms;
        final int[] farmNames = new int[MOST_FARMS];
        int walkers;
        final int[] walkerNames = new int[MOST_WALKERS];
        final int[] farmOf = new int[MOST_WALKERS];
        final int[] weights = new int[MOST_WALKERS];
        final int[] gaits = new int[MOST_WALKERS];
        final int[] homes = new int[MOST_WALKERS];
        final Forecast cast = new Forecast();
        int seed;
        int knots;
        // The laws one behind another, each with its signs behind what they join.
        final int[] codes = new int[MOST_KNOTS];
        final int[] numbers = new int[MOST_KNOTS];
        final int[] lawStarts = new int[LAWS];
        final int[] lawEnds = new int[LAWS];

        Plan() {
            clear();
        }

        void clear() {
            wide = 6;
            high = 5;
            Arrays.fill(kinds, 0);
            Arrays.fill(grounds, NONE);
            farms = 0;
            walkers = 0;
            Arrays.fill(cast.hourly, 0);
            seed = 0;
            knots = 0;
            Arrays.fill(lawStarts, 0);
            Arrays.fill(lawEnds, 0);
        }

        int cellCount() {
            return wide * high;
        }

        boolean hasCell(int cell) {
            return cell >= 0 && cell < cellCount();
        }

        boolean hasFarm(int farm) {
            return farm >= 0 && farm < farms;
        }

        boolean hasWalker(int walker) {
            return walker >= 0 && walker < walkers;
        }

        int farmBy(int letters) {
            for (int farm = 0; farm < farms; farm++) {
                if (farmNames[farm] == letters) {
                    return farm;
                }
            }
            return NONE;
        }

        int walkerBy(int letters) {
            for (int walker = 0; walker < walkers; walker++) {
                if (walkerNames[walker] == letters) {
                    return walker;
                }
            }
            return NONE;
        }

        private int column(int cell) {
            return wide > 0 ? cell % wide : 0;
        }

        private int row(int cell) {
            return wide > 0 ? cell / wide : 0;
        }

        int beside(int cell, int way) {
            int x = column(cell) + (way == 1 ? 1 : way == 3 ? -1 : 0);
            int y = row(cell) + (way == 2 ? 1 : way == 0 ? -1 : 0);
            boolean inside = x >= 0 && x < wide && y >= 0 && y < high;
            return inside ? y * wide + x : NONE;
        }

        int apart(int cell, int other) {
            return Math.abs(column(cell) - column(other)) + Math.abs(row(cell) - row(other));
        }
    }

    /** The odds of snow hour by hour. */
    private static final class Forecast {
        final int[] hourly = new int[CAST_HOURS];

        int whole(int k) {
            int product = 1;
            for (int i = 0; i < k; i++) {
                product *= 100;
            }
            return product;
        }

        /** How likely snow falls in one of k hours, of whole(k). */
        int odds(int hour, int k) {
            int dry = 1;
            for (int i = hour; i < hour + k; i++) {
                dry *= i >= 0 && i < CAST_HOURS ? 100 - hourly[i] : 100;
            }
            return whole(k) - dry;
        }

        private int gain(int own, int other) {
            int all = odds(own, 2);
            return other < own ? all / 2 : all;
        }

        boolean isRest(int first, int second, int hour, int n) {
            int firstGain = gain(first, second);
            int secondGain = gain(second, first);
            for (int another = hour; another < hour + n; another++) {
                if (gain(another, second) > firstGain || gain(another, first) > secondGain) {
                    return false;
                }
            }
            return true;
        }
    }

    /** Reads a text's bytes as tokens, one at a time. */
    private static final class Lexer {
        // Six places for each word: a word's number is where it stands.
        private static final String WORDS =
            "field tree  ice   farm  walkercast  seed  law   fade  score deep  weightgait  far   age   snow  own   or    and   not   ";
        private static final int WORD_ROOM = 6;
        // Above all that a text may say; more digits would run over.
        private static final int MOST_NUMBER = 1000000;

        private byte[] bytes;
        private int length;
        private int next;
        int type;
        int start;
        int number;
        int letters;

        Lexer(byte[] empty) {
            bytes = empty;
        }

        void begin(byte[] text, int size) {
            bytes = text;
            length = size;
            next = 0;
            advance();
        }

        private int byteAt(int place) {
            return place < length && place < bytes.length ? bytes[place] & 255 : 0;
        }

        void advance() {
            while (next < length && (byteAt(next) == 10 || byteAt(next) == 32)) {
                next++;
            }
            start = next;
            if (next >= length) {
                type = END;
                return;
            }
            int sign = byteAt(next);
            if (isLetter(sign)) {
                takeWord();
            } else if (isDigit(sign)) {
                takeNumber();
            } else {
                next++;
                type = signType(sign);
            }
        }

        private static boolean isLetter(int sign) {
            return sign >= 'a' && sign <= 'z';
        }

        private static boolean isDigit(int sign) {
            return sign >= '0' && sign <= '9';
        }

        private void takeWord() {
            letters = 0;
            while (next < length && isLetter(byteAt(next))) {
                int place = next - start;
                if (place < WORD_ROOM) {
                    letters |= (byteAt(next) - 'a' + 1) << (25 - 5 * place);
                }
                next++;
            }
            type = next - start > WORD_ROOM ? NO_TOKEN : wordType();
        }

        private int wordType() {
            for (int word = 0; word < WORD_COUNT; word++) {
                boolean same = true;
                for (int i = 0; i < WORD_ROOM && same; i++) {
                    int letter = letters >> (25 - 5 * i) & 31;
                    same = WORDS.charAt(word * WORD_ROOM + i) == (letter == 0 ? ' ' : 'a' - 1 + letter);
                }
                if (same) {
                    return word;
                }
            }
            return NAME;
        }

        private void takeNumber() {
            number = 0;
            while (next < length && isDigit(byteAt(next))) {
                number = Math.min(MOST_NUMBER, number * 10 + byteAt(next) - '0');
                next++;
            }
            type = NUMBER;
        }

        private int signType(int sign) {
            switch (sign) {
                case ';':
                    return SEMICOLON;
                case '(':
                    return OPEN;
                case ')':
                    return CLOSE;
                case '<':
                    return takeNext('=') ? AT_MOST : takeNext('>') ? UNLIKE : LESS;
                case '=':
                    return EQUAL;
                case '>':
                    return takeNext('=') ? AT_LEAST : MORE;
                case '+':
                    return PLUS;
                case '-':
                    return MINUS;
                case '*':
                    return TIMES;
                case '/':
                    return BY;
                default:
                    return NO_TOKEN;
            }
        }

        private boolean takeNext(int sign) {
            if (byteAt(next) != sign) {
                return false;
            }
            next++;
            return true;
        }
    }

    /** Tells a plan by a text. Behind the first fault it may go on to the end of a line, but keeps that fault. */
    private static final class Teller {
        private static final int WRONG_TOKEN = 1;
        private static final int TOO_MUCH = 2;
        private static final int TOLD_ALREADY = 3;
        private static final int TOLD_LATE = 4;
        private static final int MOST_OF_A_KIND = 12;
        private static final int MOST_OPEN = 8;
        private static final int NOT_RANK = 3;
        private static final int COMPARING_RANK = 4;

        int fault = 0;
        int place = NONE;
        int lines = 0;
        private final Lexer lexer = new Lexer(new byte[0]);
        private Plan plan;
        private final int[] kindCounts = new int[3];
        private boolean fieldTold;
        private boolean castTold;
        private boolean seedTold;
        private boolean cellsTold;
        // Of a law's E: signs that wait for what they join, and how much of the plan's code is written.
        private final int[] held = new int[MOST_KNOTS + MOST_OPEN];
        private int heldSize;
        private int open;
        private boolean operandDue;
        private int written;

        Teller(Plan first) {
            plan = first;
        }

        void begin(byte[] tape, int length, Plan into) {
            plan = into;
            plan.clear();
            fault = 0;
            place = NONE;
            lines = 0;
            Arrays.fill(kindCounts, 0);
            fieldTold = false;
            castTold = false;
            seedTold = false;
            cellsTold = false;
            written = 0;
            lexer.begin(tape, length);
        }

        boolean hasMore() {
            return lexer.type != END && fault == 0;
        }

        private void fail(int kind) {
            if (fault == 0) {
                fault = kind;
                place = lexer.start;
            }
        }

        void tellLine() {
            switch (lexer.type) {
                case FIELD:
                    tellField();
                    break;
                case TREE:
                    tellKind(TREE_KIND);
                    break;
                case ICE:
                    tellKind(ICE_KIND);
                    break;
                case FARM:
                    tellFarm();
                    break;
                case WALKER:
                    tellWalker();
                    break;
                case CAST:
                    tellCast();
                    break;
                case SEED:
                    tellSeed();
                    break;
                case LAW:
                    tellLaw();
                    break;
                default:
                    fail(WRONG_TOKEN);
                    break;
            }
            if (lexer.type != SEMICOLON) {
                fail(WRONG_TOKEN);
            }
            lexer.advance();
            lines++;
        }

        /** The number that stands here, or the least one with a fault: so that what goes on stays in bounds. */
        private int numberHere(int least, int most) {
            if (lexer.type != NUMBER) {
                fail(WRONG_TOKEN);
                return least;
            }
            if (lexer.number < least || lexer.number > most) {
                fail(TOO_MUCH);
                return least;
            }
            return lexer.number;
        }

        private int nextNumber(int least, int most) {
            lexer.advance();
            return numberHere(least, most);
        }

        private int nextName() {
            lexer.advance();
            if (lexer.type != NAME) {
                fail(WRONG_TOKEN);
                return 0;
            }
            return lexer.letters;
        }

        private void tellField() {
            if (fieldTold) {
                fail(TOLD_ALREADY);
            }
            if (cellsTold) {
                fail(TOLD_LATE);
            }
            fieldTold = true;
            plan.wide = nextNumber(1, 8);
            plan.high = nextNumber(1, 6);
            lexer.advance();
        }

        private void tellKind(int kind) {
            if (kindCounts[kind] >= MOST_OF_A_KIND) {
                fail(TOO_MUCH);
            }
            cellsTold = true;
            int x = nextNumber(0, plan.wide - 1);
            int y = nextNumber(0, plan.high - 1);
            int cell = y * plan.wide + x;
            if (plan.kinds[cell] != 0) {
                fail(TOLD_ALREADY);
            }
            plan.kinds[cell] = kind;
            kindCounts[kind]++;
            lexer.advance();
        }

        private void tellFarm() {
            if (plan.farms >= MOST_FARMS) {
                fail(TOO_MUCH);
                return;
            }
            cellsTold = true;
            int name = nextName();
            if (plan.farmBy(name) != NONE) {
                fail(TOLD_ALREADY);
            }
            int left = nextNumber(0, plan.wide - 1);
            int top = nextNumber(0, plan.high - 1);
            int right = nextNumber(left, plan.wide - 1);
            int bottom = nextNumber(top, plan.high - 1);
            for (int y = top; y <= bottom; y++) {
                for (int x = left; x <= right; x++) {
                    plan.grounds[y * plan.wide + x] = plan.farms;
                }
            }
            plan.farmNames[plan.farms] = name;
            plan.farms++;
            lexer.advance();
        }

        private void tellWalker() {
            int walker = plan.walkers;
            if (walker >= MOST_WALKERS) {
                fail(TOO_MUCH);
                return;
            }
            cellsTold = true;
            int name = nextName();
            if (plan.walkerBy(name) != NONE) {
                fail(TOLD_ALREADY);
            }
            int farm = plan.farmBy(nextName());
            if (farm == NONE) {
                fail(TOLD_LATE);
            }
            plan.walkerNames[walker] = name;
            plan.farmOf[walker] = farm;
            plan.weights[walker] = nextNumber(1, 60);
            plan.gaits[walker] = nextNumber(1, 3);
            int x = nextNumber(0, plan.wide - 1);
            int y = nextNumber(0, plan.high - 1);
            plan.homes[walker] = y * plan.wide + x;
            plan.walkers++;
            lexer.advance();
        }

        private void tellCast() {
            if (castTold) {
                fail(TOLD_ALREADY);
            }
            castTold = true;
            plan.cast.hourly[0] = nextNumber(0, 100);
            lexer.advance();
            for (int hour = 1; hour < CAST_HOURS && lexer.type == NUMBER; hour++) {
                plan.cast.hourly[hour] = numberHere(0, 100);
                lexer.advance();
            }
            if (lexer.type == NUMBER) {
                fail(TOO_MUCH);
            }
        }

        private void tellSeed() {
            if (seedTold) {
                fail(TOLD_ALREADY);
            }
            seedTold = true;
            plan.seed = nextNumber(0, 99999);
            lexer.advance();
        }

        private void tellLaw() {
            lexer.advance();
            int kind = lexer.type - FADE;
            if (kind < 0 || kind >= LAWS) {
                fail(WRONG_TOKEN);
                return;
            }
            if (plan.lawEnds[kind] > plan.lawStarts[kind]) {
                fail(TOLD_ALREADY);
                return;
            }
            plan.lawStarts[kind] = written;
            lexer.advance();
            tellExpression();
            plan.lawEnds[kind] = written;
        }

        /** By ranks of the signs and not by calls within calls: a law's depth costs no depth of calls. */
        private void tellExpression() {
            heldSize = 0;
            open = 0;
            operandDue = true;
            for (int i = 0; i < MOST_TAPED && fault == 0; i++) {
                if (lexer.type == END || (lexer.type == SEMICOLON && !operandDue && open == 0)) {
                    break;
                }
                if (operandDue) {
                    takeOperand();
                } else {
                    takeOperator();
                }
                lexer.advance();
            }
            release(1);
        }

        private void takeOperand() {
            int type = lexer.type;
            if (type == NUMBER) {
                int number = numberHere(0, 9999);
                addKnot();
                write(NUMBER, number);
                operandDue = false;
            } else if (type >= DEEP && type <= OWN) {
                addKnot();
                write(type, 0);
                operandDue = false;
            } else if (type == OPEN) {
                if (open >= MOST_OPEN) {
                    fail(TOO_MUCH);
                }
                open++;
                hold(OPEN);
            } else if (type == NOT && heldRank() <= NOT_RANK) {
                addKnot();
                hold(NOT);
            } else {
                fail(WRONG_TOKEN);
            }
        }

        private void takeOperator() {
            int type = lexer.type;
            if (type == CLOSE && open > 0) {
                release(1);
                heldSize = Math.max(0, heldSize - 1);
                open--;
                return;
            }
            int rank = rank(type);
            if (rank < 1 || type == NOT) {
                fail(WRONG_TOKEN);
                return;
            }
            release(rank == COMPARING_RANK ? rank + 1 : rank);
            if (rank == COMPARING_RANK && heldRank() == rank) {
                // A comparison's side is no comparison.
                fail(WRONG_TOKEN);
            }
            addKnot();
            hold(type);
            operandDue = true;
        }

        private static int rank(int type) {
            switch (type) {
                case OR:
                    return 1;
                case AND:
                    return 2;
                case NOT:
                    return NOT_RANK;
                case LESS:
                case AT_MOST:
                case EQUAL:
                case UNLIKE:
                case AT_LEAST:
                case MORE:
                    return COMPARING_RANK;
                case PLUS:
                case MINUS:
                    return 5;
                case TIMES:
                case BY:
                    return 6;
                default:
                    return 0;
            }
        }

        private void addKnot() {
            if (plan.knots >= MOST_KNOTS) {
                fail(TOO_MUCH);
            } else {
                plan.knots++;
            }
        }

        private void hold(int type) {
            if (heldSize < held.length) {
                held[heldSize] = type;
                heldSize++;
            }
        }

        private int heldRank() {
            return heldSize > 0 && heldSize <= held.length ? rank(held[heldSize - 1]) : 0;
        }

        private void release(int rank) {
            for (int i = heldSize; i > 0 && heldRank() >= rank; i--) {
                heldSize--;
                write(held[heldSize], 0);
            }
        }

        private void write(int code, int number) {
            if (written < MOST_KNOTS) {
                plan.codes[written] = code;
                plan.numbers[written] = number;
                written++;
            }
        }
    }

    /** Works out a law's E for the names that are set. */
    private static final class Reckoner {
        private static final long MOST_VALUE = 1000000000000L;

        // By what the token of a name is more than that of deep.
        private final long[] names = new long[OWN - DEEP + 1];
        private final long[] stack = new long[MOST_KNOTS];
        private boolean failed;

        void setName(int type, long value) {
            if (type >= DEEP && type <= OWN) {
                names[type - DEEP] = value;
            }
        }

        /** A law that isn't told has no codes: an ERROR, too. */
        long work(Plan plan, int law) {
            failed = false;
            int size = 0;
            for (int i = plan.lawStarts[law]; i < plan.lawEnds[law] && i < MOST_KNOTS; i++) {
                int code = plan.codes[i];
                if (code == NUMBER && size < MOST_KNOTS) {
                    stack[size] = plan.numbers[i];
                    size++;
                } else if (code >= DEEP && code <= OWN && size < MOST_KNOTS) {
                    stack[size] = names[code - DEEP];
                    size++;
                } else if (code == NOT && size > 0) {
                    stack[size - 1] = truth(stack[size - 1] == 0);
                } else if (size > 1) {
                    size--;
                    stack[size - 1] = joined(code, stack[size - 1], stack[size]);
                } else {
                    return ERROR;
                }
            }
            return failed || size != 1 ? ERROR : stack[0];
        }

        private static long truth(boolean is) {
            return is ? 1 : 0;
        }

        private long joined(int code, long a, long b) {
            switch (code) {
                case OR:
                    return truth(a != 0 || b != 0);
                case AND:
                    return truth(a != 0 && b != 0);
                case LESS:
                    return truth(a < b);
                case AT_MOST:
                    return truth(a <= b);
                case EQUAL:
                    return truth(a == b);
                case UNLIKE:
                    return truth(a != b);
                case AT_LEAST:
                    return truth(a >= b);
                case MORE:
                    return truth(a > b);
                case PLUS:
                    return checked(a + b);
                case MINUS:
                    return checked(a - b);
                case TIMES:
                    return product(a, b);
                case BY:
                    return quotient(a, b);
                default:
                    return failure();
            }
        }

        private long failure() {
            failed = true;
            return 0;
        }

        private long checked(long value) {
            return value > MOST_VALUE || value < -MOST_VALUE ? failure() : value;
        }

        private long product(long a, long b) {
            // Two values within the bound may have a product beyond a long.
            if (a != 0 && Math.abs(b) > MOST_VALUE / Math.abs(a)) {
                return failure();
            }
            return a * b;
        }

        private long quotient(long a, long b) {
            return b == 0 ? failure() : a / b;
        }
    }

    /** The marks by their numbers. One that is gone has DEEP 0 and keeps the rest. */
    private static final class Marks {
        int size = 0;
        final int[] looks = new int[MOST_MARKS];
        final int[] cells = new int[MOST_MARKS];
        final int[] ways = new int[MOST_MARKS];
        final int[] born = new int[MOST_MARKS];
        final int[] deep = new int[MOST_MARKS];
        final int[] cover = new int[MOST_MARKS];
        final int[] owners = new int[MOST_MARKS];
        final int[] blurs = new int[MOST_MARKS];

        void takeFrom(Marks other) {
            size = other.size;
            System.arraycopy(other.looks, 0, looks, 0, size);
            System.arraycopy(other.cells, 0, cells, 0, size);
            System.arraycopy(other.ways, 0, ways, 0, size);
            System.arraycopy(other.born, 0, born, 0, size);
            System.arraycopy(other.deep, 0, deep, 0, size);
            System.arraycopy(other.cover, 0, cover, 0, size);
            System.arraycopy(other.owners, 0, owners, 0, size);
            System.arraycopy(other.blurs, 0, blurs, 0, size);
        }

        void add(int owner, int look, int cell, int way, int hour, int depth) {
            if (size >= MOST_MARKS) {
                return;
            }
            owners[size] = owner;
            looks[size] = look;
            cells[size] = cell;
            ways[size] = way;
            born[size] = hour;
            deep[size] = depth;
            cover[size] = 0;
            blurs[size] = 0;
            size++;
        }

        boolean has(int mark) {
            return mark >= 0 && mark < size;
        }

        boolean lasts(int mark) {
            return has(mark) && deep[mark] > 0;
        }

        boolean isOpen(int mark) {
            return lasts(mark) && cover[mark] == 0;
        }

        int lasting() {
            int sum = 0;
            for (int mark = 0; mark < size; mark++) {
                if (lasts(mark)) {
                    sum++;
                }
            }
            return sum;
        }

        int lastingIn(int cell) {
            int sum = 0;
            for (int mark = 0; mark < size; mark++) {
                if (lasts(mark) && cells[mark] == cell) {
                    sum++;
                }
            }
            return sum;
        }

        int readIn(int cell) {
            for (int mark = size - 1; mark >= 0; mark--) {
                if (isOpen(mark) && cells[mark] == cell) {
                    return mark;
                }
            }
            return NONE;
        }

        void lessen(int mark, int depth) {
            deep[mark] = Math.max(0, deep[mark] - depth);
        }

        /** The least COVER above one, of marks that aren't gone. */
        int coverAbove(int one) {
            int least = NONE;
            for (int mark = 0; mark < size; mark++) {
                if (lasts(mark) && cover[mark] > one && (least == NONE || cover[mark] < least)) {
                    least = cover[mark];
                }
            }
            return least;
        }

        void dropLooking(int walker) {
            for (int mark = 0; mark < size; mark++) {
                if (looks[mark] == walker) {
                    deep[mark] = 0;
                }
            }
        }
    }

    /** All that an image keeps: walkers, marks, the hour, the snow, debts and the last number drawn. */
    private static final class Snow {
        private static final int MOST_SNOW = 9999;

        private final Reckoner reckoner;
        private Plan plan;
        final int[] at = new int[MOST_WALKERS];
        final int[] steps = new int[MOST_WALKERS];
        final int[] boots = new int[MOST_WALKERS];
        final Marks marks = new Marks();
        final int[] debts = new int[MOST_FARMS];
        int hour = 0;
        int snow = 0;
        int winters = 0;
        long lastNumber = 0;
        // The mark read in each cell, as the latest readAll() found it.
        final int[] reading = new int[MOST_CELLS];

        Snow(Plan first, Reckoner worker) {
            plan = first;
            reckoner = worker;
        }

        void begin(Plan told) {
            plan = told;
            hour = 0;
            winters = 0;
            lastNumber = told.seed;
            Arrays.fill(debts, 0);
            clearField();
        }

        private void clearField() {
            marks.size = 0;
            snow = 0;
            for (int walker = 0; walker < MOST_WALKERS; walker++) {
                at[walker] = walker < plan.walkers ? plan.homes[walker] : 0;
                steps[walker] = 0;
                boots[walker] = walker;
            }
        }

        void takeFrom(Snow other) {
            plan = other.plan;
            System.arraycopy(other.at, 0, at, 0, MOST_WALKERS);
            System.arraycopy(other.steps, 0, steps, 0, MOST_WALKERS);
            System.arraycopy(other.boots, 0, boots, 0, MOST_WALKERS);
            marks.takeFrom(other.marks);
            System.arraycopy(other.debts, 0, debts, 0, MOST_FARMS);
            hour = other.hour;
            snow = other.snow;
            winters = other.winters;
            lastNumber = other.lastNumber;
        }

        private void setNames(int walker, int cell, int deep, int age) {
            reckoner.setName(DEEP, deep);
            reckoner.setName(WEIGHT, plan.weights[walker]);
            reckoner.setName(GAIT, plan.gaits[walker]);
            reckoner.setName(FAR, plan.apart(cell, plan.homes[walker]));
            reckoner.setName(AGE, age);
            reckoner.setName(SNOW, snow);
            reckoner.setName(OWN, plan.grounds[cell] == plan.farmOf[walker] ? 1 : 0);
        }

        long lawOfMark(int law, int mark) {
            setNames(marks.looks[mark], marks.cells[mark], marks.deep[mark], hour - marks.born[mark]);
            return reckoner.work(plan, law);
        }

        long deepLaw(int walker, int cell) {
            setNames(walker, cell, 0, 0);
            return reckoner.work(plan, DEEP_LAW);
        }

        private static int bounded(long value, int least, int otherwise) {
            if (value == ERROR) {
                return otherwise;
            }
            return (int) Math.max(least, Math.min(99, value));
        }

        boolean wouldMark(int walker, int cell) {
            int gait = plan.gaits[walker];
            return gait > 0 && (steps[walker] + 1) % gait == 0 && plan.kinds[cell] == 0;
        }

        /** Whether a mark is left. */
        boolean walk(int walker, int cell, int way) {
            boolean leaves = wouldMark(walker, cell);
            at[walker] = cell;
            steps[walker]++;
            if (leaves) {
                int deep = bounded(deepLaw(walker, cell), 1, plan.weights[walker]);
                marks.add(walker, boots[walker], cell, way, hour, deep);
            }
            return leaves;
        }

        boolean hasHoursLeft(int n) {
            return n <= LAST_HOUR - hour;
        }

        void passHour() {
            for (int mark = 0; mark < marks.size; mark++) {
                if (marks.isOpen(mark)) {
                    marks.lessen(mark, bounded(lawOfMark(FADE_LAW, mark), 0, 0));
                }
            }
            hour++;
        }

        void coverBy(int n) {
            for (int mark = 0; mark < marks.size; mark++) {
                marks.cover[mark] += n;
            }
            snow = Math.min(MOST_SNOW, snow + n);
        }

        /** How many marks are gone by it. */
        int meltBy(int n) {
            int gone = 0;
            for (int mark = 0; mark < marks.size; mark++) {
                if (marks.lasts(mark)) {
                    int cover = marks.cover[mark];
                    marks.cover[mark] = Math.max(0, cover - n);
                    marks.lessen(mark, Math.max(0, n - cover));
                    gone += marks.lasts(mark) ? 0 : 1;
                }
            }
            snow = Math.max(0, snow - n);
            return gone;
        }

        private int drawNumber() {
            lastNumber = (lastNumber * 1103515245L + 12345L) & 0x7fffffffL;
            return (int) (lastNumber / 65536);
        }

        /** How much fell; below 0: thawed. */
        int passNight() {
            int fell = 0;
            int kind = drawNumber() % 3;
            if (kind == 0) {
                fell = 1 + drawNumber() % 9;
                coverBy(fell);
            } else if (kind == 1) {
                int melted = 1 + drawNumber() % 5;
                meltBy(melted);
                fell = -melted;
            }
            passHour();
            return fell;
        }

        void endWinter() {
            for (int farm = 0; farm < plan.farms; farm++) {
                debts[farm] += scoreOf(farm);
            }
            winters++;
            clearField();
        }

        /** Finds the mark read in each cell: how many there are. */
        int readAll() {
            Arrays.fill(reading, NONE);
            int sum = 0;
            for (int mark = marks.size - 1; mark >= 0; mark--) {
                if (marks.isOpen(mark) && reading[marks.cells[mark]] == NONE) {
                    reading[marks.cells[mark]] = mark;
                    sum++;
                }
            }
            return sum;
        }

        int scoreOf(int farm) {
            readAll();
            int sum = 0;
            for (int cell = 0; cell < plan.cellCount(); cell++) {
                int mark = reading[cell];
                if (plan.grounds[cell] == farm && mark != NONE && marks.blurs[mark] == 0
                        && plan.farmOf[marks.looks[mark]] != farm) {
                    sum += bounded(lawOfMark(SCORE_LAW, mark), 0, 1);
                }
            }
            return sum;
        }

        /** The next one of a mark's trail, or NONE. */
        int markBefore(int mark) {
            int look = marks.looks[mark];
            for (int one = mark - 1; one >= 0; one--) {
                if (marks.lasts(one) && marks.looks[one] == look && isNear(mark, marks.cells[one])) {
                    return one;
                }
            }
            return NONE;
        }

        private boolean isNear(int mark, int cell) {
            return plan.apart(marks.cells[mark], cell) <= plan.gaits[marks.looks[mark]];
        }

        private boolean closes(int mark) {
            if (isNear(mark, plan.homes[marks.looks[mark]]) || markBefore(mark) != NONE) {
                return true;
            }
            for (int cell = 0; cell < plan.cellCount(); cell++) {
                if (plan.kinds[cell] != 0 && isNear(mark, cell)) {
                    return true;
                }
            }
            return false;
        }

        /** By the latest readAll(). */
        boolean isForged(int mark) {
            return reading[marks.cells[mark]] == mark && marks.blurs[mark] == 0 && !closes(mark);
        }
    }

    /** Claims and strikes in one row, numbered together. */
    private static final class Claims {
        static final int ALL = -1;

        int size = 0;
        int knownBy = ALL;
        private final int[] cells = new int[MOST_CLAIMS];
        private final int[] walkers = new int[MOST_CLAIMS];
        private final int[] froms = new int[MOST_CLAIMS];
        private final int[] tos = new int[MOST_CLAIMS];
        // Which one a strike is of; NONE for a claim.
        private final int[] targets = new int[MOST_CLAIMS];
        private final int[] struck = new int[MOST_CLAIMS];

        void clear() {
            size = 0;
            knownBy = ALL;
        }

        int addClaim(int cell, int walker, int from, int to) {
            if (size >= MOST_CLAIMS) {
                return NONE;
            }
            cells[size] = cell;
            walkers[size] = walker;
            froms[size] = from;
            tos[size] = to;
            targets[size] = NONE;
            size++;
            return size - 1;
        }

        int addStrike(int target) {
            if (size >= MOST_CLAIMS) {
                return NONE;
            }
            targets[size] = target;
            size++;
            return size - 1;
        }

        int knownSize() {
            return knownBy == ALL ? size : knownBy;
        }

        private void findStruck(int n) {
            Arrays.fill(struck, 0);
            // From the last one on: a strike is of one ahead of it, so what strikes it is known by then.
            for (int one = n - 1; one >= 0; one--) {
                int target = targets[one];
                if (target >= 0 && target < one && struck[one] == 0) {
                    struck[target] = 1;
                }
            }
        }

        int firstWrong(Snow snow) {
            int n = knownSize();
            findStruck(n);
            for (int one = 0; one < n; one++) {
                if (targets[one] == NONE && struck[one] == 0 && !holds(one, snow)) {
                    return one;
                }
            }
            return NONE;
        }

        private boolean holds(int one, Snow snow) {
            Marks marks = snow.marks;
            int mark = marks.readIn(cells[one]);
            return mark != NONE && marks.blurs[mark] == 0 && marks.looks[mark] == walkers[one]
                && marks.born[mark] >= froms[one] && marks.born[mark] <= tos[one];
        }
    }

    /** What can be undone. Rows are used in turn, so that the oldest is lost first. */
    private static final class Log {
        private static final int STEP = 0;
        private static final int MARKING_STEP = 1;
        private static final int BOOTS = 2;
        private static final int FOX = 3;

        int size = 0;
        private int next = 0;
        private final int[] kinds = new int[MOST_UNDONE];
        private final int[] walkers = new int[MOST_UNDONE];
        // The cell or the boots ahead of it; of a fox, how many it blurred.
        private final int[] befores = new int[MOST_UNDONE];
        private final int[][] foxed = new int[MOST_UNDONE][FOX_REACH];

        void noteStep(int walker, int from, boolean left) {
            note(left ? MARKING_STEP : STEP, walker, from);
        }

        void noteBoots(int walker, int whose) {
            note(BOOTS, walker, whose);
        }

        /** Where a fox that blurs any writes which ones, ahead of noteFox(). */
        int[] foxRow() {
            return foxed[next];
        }

        void noteFox(int blurred) {
            note(FOX, 0, blurred);
        }

        private void note(int kind, int walker, int before) {
            kinds[next] = kind;
            walkers[next] = walker;
            befores[next] = before;
            next = next + 1 < MOST_UNDONE ? next + 1 : 0;
            size = Math.min(MOST_UNDONE, size + 1);
        }

        void takeBack(Snow snow) {
            next = next > 0 ? next - 1 : MOST_UNDONE - 1;
            size--;
            int before = befores[next];
            int walker = walkers[next];
            switch (kinds[next]) {
                case STEP:
                case MARKING_STEP:
                    snow.at[walker] = before;
                    snow.steps[walker]--;
                    if (kinds[next] == MARKING_STEP) {
                        snow.marks.size = Math.max(0, snow.marks.size - 1);
                    }
                    break;
                case BOOTS:
                    snow.boots[walker] = before;
                    break;
                default:
                    for (int i = 0; i < before && i < FOX_REACH; i++) {
                        snow.marks.blurs[foxed[next][i]] = 0;
                    }
                    break;
            }
        }
    }

    /** The way from a cell to another that leaves least. */
    private static final class Route {
        // Above all steps of a way, so that one sum orders by new cells first, then by steps.
        private static final int NEW_CELL = 100;
        private static final int UNREACHED = 1000000;

        int fresh;
        int steps;
        final int[] cells = new int[MOST_CELLS];
        private final int[] tolls = new int[MOST_CELLS];
        private final int[] costs = new int[MOST_CELLS];

        void find(Plan plan, int[] reading, int from, int to) {
            int size = plan.cellCount();
            for (int cell = 0; cell < size; cell++) {
                boolean isNew = plan.kinds[cell] == 0 && reading[cell] == NONE;
                tolls[cell] = isNew ? NEW_CELL + 1 : 1;
                costs[cell] = UNREACHED;
            }
            costs[to] = 0;
            boolean changed = true;
            for (int round = 0; round < size && changed; round++) {
                changed = false;
                for (int cell = 0; cell < size; cell++) {
                    changed |= lower(plan, cell);
                }
            }
            fresh = costs[from] / NEW_CELL;
            follow(plan, from, to);
        }

        private boolean lower(Plan plan, int cell) {
            boolean changed = false;
            for (int way = 0; way < WAYS; way++) {
                int other = plan.beside(cell, way);
                if (other != NONE && costs[other] + tolls[other] < costs[cell]) {
                    costs[cell] = costs[other] + tolls[other];
                    changed = true;
                }
            }
            return changed;
        }

        private void follow(Plan plan, int from, int to) {
            int at = from;
            cells[0] = from;
            steps = 0;
            for (int i = 1; i < MOST_CELLS && at != to; i++) {
                at = nextCell(plan, at);
                cells[i] = at;
                steps = i;
            }
        }

        private int nextCell(Plan plan, int at) {
            for (int way = 0; way < WAYS; way++) {
                int other = plan.beside(at, way);
                if (other != NONE && costs[other] + tolls[other] == costs[at]) {
                    return other;
                }
            }
            return at;
        }
    }

    /** What is seen from where, in bits by the cells' numbers. */
    private static final class Sight {
        final int[] chosen = new int[MOST_UMPIRES];
        // 0 for a tree: nothing is seen from it, so no search takes it.
        private final long[] seen = new long[MOST_CELLS];

        long from(Plan plan, int cell) {
            long bits = 1L << cell;
            for (int way = 0; way < WAYS; way++) {
                int at = plan.beside(cell, way);
                for (int i = 0; i < MOST_CELLS && at != NONE && plan.kinds[at] != TREE_KIND; i++) {
                    bits |= 1L << at;
                    at = plan.beside(at, way);
                }
            }
            return bits;
        }

        boolean isGround(Plan plan, long ground) {
            if (ground < 0 || ground >>> plan.cellCount() != 0) {
                return false;
            }
            for (int cell = 0; cell < plan.cellCount(); cell++) {
                if ((ground >>> cell & 1) == 1 && plan.kinds[cell] == TREE_KIND) {
                    return false;
                }
            }
            return true;
        }

        int fewest(Plan plan, long ground) {
            int size = plan.cellCount();
            for (int cell = 0; cell < size; cell++) {
                seen[cell] = plan.kinds[cell] == TREE_KIND ? 0 : from(plan, cell);
            }
            if (ground == 0) {
                return 0;
            }
            if (chooseOne(ground, 0, 0, size)) {
                return 1;
            }
            if (chooseTwo(ground, 0, 0, size)) {
                return 2;
            }
            for (int first = 0; first < size; first++) {
                chosen[0] = first;
                if (chooseTwo(ground & ~seen[first], 1, first + 1, size)) {
                    return 3;
                }
            }
            return LACKING;
        }

        private boolean chooseTwo(long ground, int k, int start, int size) {
            for (int cell = start; cell < size; cell++) {
                chosen[k] = cell;
                if (chooseOne(ground & ~seen[cell], k + 1, cell + 1, size)) {
                    return true;
                }
            }
            return false;
        }

        private boolean chooseOne(long ground, int k, int start, int size) {
            for (int cell = start; cell < size; cell++) {
                if ((ground & ~seen[cell]) == 0) {
                    chosen[k] = cell;
                    return true;
                }
            }
            return false;
        }
    }
}
