import java.util.ArrayList;
import java.util.List;
import java.util.NoSuchElementException;
import java.util.Random;

/** Random runs of calls, each answer held against the Model's: arguments in bounds, at edges and far off. */
public final class RandomRunsTest {
    private static final int RUNS = 1500;
    private static final int[] FAR_OFF = {-1, -2, 0, 1, 2, 3, 4, 5, 6, 8, 9, 23, 24, 25, 30, 48, 49, 89, 90, 91, 99, 100,
        999, 1000, 9999, 10000, 64, Integer.MAX_VALUE, Integer.MIN_VALUE, 1000000};
    private static final String[] PIECES = {"field", "tree", "ice", "farm", "walker", "cast", "seed", "law", "deep", "fade",
        "score", "or", "and", "not", "weight", "gait", "far", "age", "snow", "own", "f", "g", "w", "abcdef", "abcdefg", "0",
        "1", "7", "60", "61", "9999", "10000", "99999999999999999999", "007", ";", "(", ")", "<", "<=", "=", "<>", ">=", ">",
        "+", "-", "*", "/", "\n", "A", "\u00e9", "\t", "\0"};

    private final Random random;
    private final int run;
    private final SnowScore real = new SnowScore();
    private final Model model = new Model();
    private final List<String> calls = new ArrayList<>();
    private int farms = 0;

    private RandomRunsTest(int run) {
        this.run = run;
        random = new Random(run);
    }

    public static void main(String[] args) {
        int wrong = 0;
        for (int run = 0; run < RUNS && wrong < 5; run++) {
            if (!new RandomRunsTest(run).holds()) {
                wrong++;
            }
        }
        if (wrong > 0) {
            System.exit(1);
        }
        System.out.println(RUNS + " random runs answered as the model");
    }

    private boolean holds() {
        int size = 0;
        if (random.nextInt(8) > 0) {
            tell(random.nextInt(10) == 0 ? anyText() : goodText());
            for (int i = 0; i < 3 && real.count(3) == 0; i++) {
                tell(goodText());
            }
        }
        if (random.nextInt(10) == 0) {
            goNearTheLastHour();
        }
        int marchers = random.nextInt(4);
        int tellings = random.nextBoolean() ? 60 : 1000;
        while (calls.size() < 500) {
            try {
                if (random.nextInt(tellings) == 0) {
                    tell(random.nextInt(3) == 0 ? goodText() : random.nextBoolean() ? anyText() : spoilt(goodText()));
                } else if (random.nextInt(4) < marchers) {
                    call(8, random.nextInt(5), random.nextInt(4), 0, 0);
                } else {
                    anyCall();
                }
            } catch (IllegalStateException e) {
                System.out.println("run " + run + ": " + e.getMessage() + " " + model);
                for (String call : calls.subList(Math.max(0, calls.size() - 30), calls.size())) {
                    System.out.println("  " + call);
                }
                return false;
            }
            size++;
        }
        return size > 0;
    }

    private void goNearTheLastHour() {
        for (int i = 0; i < 100; i++) {
            same("hours(99)", real.hours(99), model.hours(99));
        }
        int more = 70 + random.nextInt(30);
        same("hours(" + more + ")", real.hours(more), model.hours(more));
    }

    // ---- texts

    private void tell(String text) {
        String cut = text.length() > 700 ? text.substring(0, 700) : text;
        StringBuilder padded = new StringBuilder(cut);
        while (padded.length() % 20 != 0) {
            padded.append(random.nextInt(4) == 0 ? '7' : ' ');
        }
        for (int i = 0; i < padded.length(); i += 20) {
            int[] n = new int[5];
            for (int j = 0; j < 20; j++) {
                n[j / 4] = n[j / 4] << 8 | padded.charAt(i + j);
            }
            same("feed " + cut.replace('\n', ' '), real.feed(n[0], n[1], n[2], n[3], n[4]), model.feed(n[0], n[1], n[2], n[3], n[4]));
        }
        int length = random.nextInt(30) == 0 ? random.nextInt(720) - 10 : cut.length();
        same("text(" + length + ") of: " + cut, real.text(length), model.text(length));
        for (int what = -1; what < 3; what++) {
            same("fault(" + what + ") of: " + cut, real.fault(what), model.fault(what));
        }
        farms = real.count(2);
    }

    private String anyText() {
        StringBuilder text = new StringBuilder();
        int size = random.nextInt(40);
        for (int i = 0; i < size; i++) {
            text.append(PIECES[random.nextInt(PIECES.length)]);
            text.append(random.nextInt(5) == 0 ? "" : " ");
        }
        return text.toString();
    }

    private String spoilt(String text) {
        StringBuilder spoilt = new StringBuilder(text);
        int times = 1 + random.nextInt(2);
        for (int i = 0; i < times; i++) {
            int place = random.nextInt(spoilt.length() + 1);
            switch (random.nextInt(4)) {
                case 0 -> spoilt.insert(place, PIECES[random.nextInt(PIECES.length)]);
                case 1 -> spoilt.insert(place, " " + PIECES[random.nextInt(PIECES.length)] + " ");
                case 2 -> spoilt.setLength(place);
                default -> {
                    if (place < spoilt.length()) {
                        spoilt.deleteCharAt(place);
                    }
                }
            }
        }
        return spoilt.toString();
    }

    private String goodText() {
        StringBuilder text = new StringBuilder();
        int wide = 6;
        int high = 5;
        if (random.nextInt(5) > 0) {
            wide = 1 + random.nextInt(8);
            high = 1 + random.nextInt(6);
            text.append("field ").append(wide).append(' ').append(high).append(';');
        }
        List<Integer> cells = new ArrayList<>();
        for (int c = 0; c < wide * high; c++) {
            cells.add(c);
        }
        java.util.Collections.shuffle(cells, random);
        int kinds = random.nextInt(Math.min(random.nextBoolean() ? 4 : 11, cells.size()));
        for (int i = 0; i < kinds; i++) {
            int c = cells.get(i);
            text.append(random.nextBoolean() ? "tree " : "ice ").append(c % wide).append(' ').append(c / wide).append(';');
        }
        int farmCount = random.nextInt(8) == 0 ? 0 : 1 + random.nextInt(3);
        for (int f = 0; f < farmCount; f++) {
            int x = random.nextInt(wide);
            int y = random.nextInt(high);
            text.append("farm ").append("fgh".charAt(f)).append(' ').append(x).append(' ').append(y).append(' ')
                .append(x + random.nextInt(wide - x)).append(' ').append(y + random.nextInt(high - y)).append(";\n");
        }
        int walkers = farmCount == 0 ? 0 : random.nextInt(9) == 0 ? 0 : 1 + random.nextInt(5);
        for (int w = 0; w < walkers; w++) {
            text.append("walker ").append("abfxy".charAt(w)).append(w % 2 == 0 ? "" : "zz").append(' ')
                .append("fgh".charAt(random.nextInt(farmCount))).append(' ').append(1 + random.nextInt(60)).append(' ')
                .append(1 + random.nextInt(3)).append(' ').append(random.nextInt(wide)).append(' ')
                .append(random.nextInt(high)).append(';');
        }
        if (random.nextBoolean()) {
            text.append("cast");
            int hours = 1 + random.nextInt(24);
            for (int h = 0; h < hours; h++) {
                text.append(' ').append(random.nextInt(3) == 0 ? random.nextInt(101) : random.nextInt(5) * 25);
            }
            text.append(';');
        }
        if (random.nextBoolean()) {
            text.append("seed ").append(random.nextInt(100000)).append(';');
        }
        for (String kind : new String[] {"deep", "fade", "score"}) {
            if (random.nextInt(3) > 0) {
                text.append("law ").append(kind).append(' ').append(expression(random.nextInt(5))).append(';');
            }
        }
        return text.toString();
    }

    private String expression(int depth) {
        String[] names = {"weight", "gait", "far", "deep", "age", "snow", "own"};
        if (depth == 0 || random.nextInt(6) == 0) {
            return random.nextInt(3) > 0 ? names[random.nextInt(7)]
                : String.valueOf(random.nextInt(4) == 0 ? random.nextInt(10000) : random.nextInt(9));
        }
        String[] signs = {"+", "-", "*", "/", "+", "-", "*", "<", "<=", "=", "<>", ">=", ">", " and ", " or "};
        String inner = expression(depth - 1);
        if (random.nextInt(8) == 0) {
            return "(not " + inner + ")";
        }
        int which = random.nextInt(signs.length);
        String joined = inner + signs[which] + expression(depth - 1);
        // Comparisons, and, or can't stand on every side; bare ones stay rare, so that most texts are good.
        return which >= 7 && random.nextInt(8) > 0 || random.nextInt(3) == 0 ? "(" + joined + ")" : joined;
    }

    // ---- calls

    private int pick(int below) {
        return random.nextInt(25) == 0 ? FAR_OFF[random.nextInt(FAR_OFF.length)] : random.nextInt(Math.max(1, below + 1));
    }

    private void anyCall() {
        int which = random.nextInt(42);
        int cells = real.count(0) * real.count(1);
        int marks = real.count(7);
        int walkers = real.count(3);
        switch (which) {
            case 0 -> call(0, pick(2), random.nextInt(4) == 0 ? pick(9) : ((int) "fgh".charAt(random.nextInt(3)) - 96) << 25, 0, 0);
            case 1 -> call(1, pick(walkers), pick(5), 0, 0);
            case 2 -> call(2, pick(cells), pick(4), 0, 0);
            case 3 -> call(3, pick(marks), pick(8), 0, 0);
            case 4 -> call(4, pick(2), pick(random.nextBoolean() ? walkers : marks), 0, 0);
            case 5 -> call(9, pick(walkers), pick(walkers), 0, 0);
            case 6 -> call(10, pick(cells), pick(3), pick(9), 0);
            case 7 -> call(random.nextInt(3) == 0 ? 11 : 5, random.nextInt(9) == 0 ? pick(99) : pick(3), pick(3), 0, 0);
            case 8 -> call(random.nextInt(3) == 0 ? 12 : 5, pick(6), pick(4), 0, 0);
            case 9 -> call(random.nextInt(3) == 0 ? 13 : 5, pick(random.nextInt(4) == 0 ? 99 : 5), pick(3), 0, 0);
            case 10 -> call(random.nextInt(4) == 0 ? 14 : 5, pick(4), pick(3), 0, 0);
            case 11 -> call(random.nextInt(20) == 0 ? 15 : 5, pick(5), pick(5), 0, 0);
            case 16 -> call(16, pick(cells), 0, 0, 0);
            case 17 -> call(17, pick(farms), pick(2), 0, 0);
            case 19 -> call(19, marks > 0 && random.nextBoolean() ? real.mark(random.nextInt(marks), 1) : pick(cells),
                pick(walkers), pick(3), pick(20), 0);
            case 20 -> call(20, pick(real.count(11)), 0, 0, 0);
            case 21 -> call(21, random.nextInt(real.count(11) + 3) - 1, 0, 0, 0);
            case 24 -> call(24, pick(4), 0, 0, 0);
            case 25 -> call(25, pick(marks), 0, 0, 0);
            case 26 -> call(26, pick(marks), pick(4), 0, 0);
            case 27 -> call(27, pick(cells), pick(cells), pick(1), 0);
            case 28 -> call(28, pick(cells), pick(cells), pick(9), 0);
            case 29 -> call(29, pick(23), 1 + pick(3), pick(1), 0);
            case 30 -> call(30, pick(12), pick(23), 1 + pick(3), 0);
            case 31 -> call(31, pick(23), pick(6), 0, 0);
            case 32 -> call(32, pick(18), pick(6), pick(9), 0);
            case 33 -> call(33, pick(cells), 0, 0, 0);
            case 34 -> umpires(cells);
            case 35 -> call(35, pick(random.nextInt(3) == 0 ? 999 : 20), 0, 0, 0);
            case 37 -> call(37, pick(4), 0, 0, 0);
            case 38 -> call(38, random.nextInt(), 1 + pick(8), pick(farms), pick(random.nextBoolean() ? 3 : 99));
            case 39 -> call(39, pick(farms), pick(4), random.nextInt(3) == 0 ? pick(9) : 0, 0);
            case 12, 13, 14, 15 -> call(5, pick(4), pick(3), 0, 0);
            default -> call(which, 0, 0, 0, 0);
        }
    }

    private void call(int which, int a, int b, int c, int d, int... more) {
        String name = which + "(" + a + ", " + b + ", " + c + ", " + d + ")";
        switch (which) {
            case 0 -> same("named" + name, real.named(a, b), model.named(a, b));
            case 1 -> looks(a, b);
            case 2 -> same("cell" + name, real.cell(a, b), model.cell(a, b));
            case 3 -> same("mark" + name, real.mark(a, b), model.mark(a, b));
            case 4 -> same("law" + name, real.law(a, b), model.law(a, b));
            case 5, 6, 7, 8, 12 -> same("step" + name, real.step(a, b), model.step(a, b));
            case 9 -> same("boots" + name, real.boots(a, b) ? 1 : 0, model.boots(a, b) ? 1 : 0);
            case 10 -> same("fox" + name, real.fox(a, b, c), model.fox(a, b, c));
            case 11 -> same("hours" + name, real.hours(a), model.hours(a));
            case 13 -> {
                if (random.nextBoolean()) {
                    same("fall" + name, real.fall(a), model.fall(a));
                } else {
                    same("thaw" + name, real.thaw(a), model.thaw(a));
                }
            }
            case 14 -> same("night" + name, real.night(), model.night());
            case 15 -> same("winter" + name, real.winter(), model.winter());
            case 16 -> same("read" + name, real.read(a), model.read(a));
            case 17 -> same("score" + name, real.score(a, b), model.score(a, b));
            case 18 -> same("ahead" + name, real.ahead(), model.ahead());
            case 19 -> same("claim" + name, real.claim(a, b, c, d), model.claim(a, b, c, d));
            case 20 -> same("strike" + name, real.strike(a), model.strike(a));
            case 21 -> same("known" + name, real.known(a) ? 1 : 0, model.known(a) ? 1 : 0);
            case 22 -> same("judged" + name, real.judged(), model.judged());
            case 23 -> same("forged" + name, real.forged(), model.forged());
            case 24 -> same("forgery" + name, real.forgery(a), model.forgery(a));
            case 25 -> same("trail" + name, real.trail(a), model.trail(a));
            case 26 -> same("trailed" + name, real.trailed(a, b), model.trailed(a, b));
            case 27 -> same("quiet" + name, real.quiet(a, b, c), model.quiet(a, b, c));
            case 28 -> same("hushed" + name, real.hushed(a, b, c), model.hushed(a, b, c));
            case 29 -> same("covered" + name, real.covered(a, b, c), model.covered(a, b, c));
            case 30 -> same("best" + name, real.best(a, b, c), model.best(a, b, c));
            case 31 -> same("rests" + name, real.rests(a, b), model.rests(a, b));
            case 32 -> same("rest" + name, real.rest(a, b, c), model.rest(a, b, c));
            case 33 -> same("sees" + name, real.sees(a), model.sees(a));
            case 35 -> same("below" + name, real.below(a), model.below(a));
            case 36 -> same("layers" + name, real.layers(), model.layers());
            case 37 -> same("layer" + name, real.layer(a), model.layer(a));
            case 38 -> same("chance" + name, real.chance(a, b, c, d), model.chance(a, b, c, d));
            case 39 -> same("tried" + name, real.tried(a, b, c), model.tried(a, b, c));
            case 40 -> {
                int times = 1 + random.nextInt(3);
                for (int i = 0; i < times; i++) {
                    same("undo" + name, real.undo(), model.undo());
                }
            }
            default -> {
                if (random.nextInt(3) == 0) {
                    same("keep" + name, real.keep(), model.keep());
                } else if (random.nextInt(4) == 0) {
                    same("back" + name, real.back(), model.back());
                }
            }
        }
        for (int what = -1; what < 15; what++) {
            same("count(" + what + ") behind " + name, real.count(what), model.count(what));
        }
    }

    private void umpires(int cells) {
        long ground = random.nextLong() & random.nextLong() & (random.nextInt(4) == 0 ? -1 : random.nextLong());
        if (random.nextInt(6) > 0) {
            ground &= (1L << cells) - 1;
        }
        for (int c = 0; c < cells && random.nextInt(40) > 0; c++) {
            if (real.cell(c, 1) == 1) {
                ground &= ~(1L << c);
            }
        }
        if (random.nextInt(2) == 0) {
            long seen = 0;
            for (int i = 0; i < 3; i++) {
                seen |= Math.max(0, real.sees(random.nextInt(cells)));
            }
            ground &= seen;
        }
        same("umpires(" + ground + ")", real.umpires(ground), model.umpires(ground));
        for (int k = -1; k < 4; k++) {
            same("umpire(" + ground + ", " + k + ")", real.umpire(ground, k), model.umpire(ground, k));
        }
    }

    private void looks(int walker, int what) {
        same("look(" + walker + ", " + what + ")", looked(true, walker, what), looked(false, walker, what));
    }

    private long looked(boolean isReal, int walker, int what) {
        try {
            return isReal ? real.look(walker, what) : model.look(walker, what);
        } catch (IndexOutOfBoundsException e) {
            return -1000;
        } catch (NoSuchElementException e) {
            return -2000;
        }
    }

    private void same(String call, long got, long due) {
        if (!call.startsWith("count")) {
            calls.add(call + " = " + got);
        }
        if (got != due) {
            throw new IllegalStateException(call + " answered " + got + ", due is " + due);
        }
    }
}
