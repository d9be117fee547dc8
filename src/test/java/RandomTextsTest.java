import java.util.Random;

/**
 * Random texts near every bound that the document sets for a text (trees, farms, walkers, hours of cast, KNOTS,
 * open '(', the tape's length), good ones and spoilt ones: told, refused and worked out as by the Model.
 */
public final class RandomTextsTest extends Telling {
    private static final int TEXTS = 20000;
    private static final int MOST_WRONG = 5;
    private static final String[] NAMES = {"weight", "gait", "far", "deep", "age", "snow", "own"};
    // The last two are cut by a blank or turned round, which makes other tokens of them.
    private static final String[] COMPARING = {"<", "<=", "=", "<>", ">=", ">", "< ", "=>"};
    private static final String[] PIECES = {"(", ")", "not ", "and ", "or ", "<", "=", ">", "+", "-", "*", "/", "9", "0",
        " ", "\n", ";", "\t", "a", "snow", "A", "\u00ff", " law ", " abcdefg "};

    private final Random random;
    /** How many more parts an expression may open: it would grow without end. */
    private int parts = 0;

    private RandomTextsTest(int seed) {
        random = new Random(seed);
    }

    public static void main(String[] args) {
        SnowScore real = new SnowScore();
        Model model = new Model();
        int[] faults = new int[5];
        int wrong = 0;
        for (int seed = 0; seed < TEXTS && wrong < MOST_WRONG; seed++) {
            // Each second text finds the one ahead of it there; more would be beyond an object's 512 calls.
            if (seed % 2 == 0) {
                real = new SnowScore();
                model = new Model();
            }
            String text = new RandomTextsTest(seed).text();
            if (!alike(real, model, text, new Random(seed))) {
                wrong++;
                System.out.println("not as the model: <" + text + ">");
            }
            faults[real.fault(0)]++;
        }
        for (int fault = 0; fault < faults.length; fault++) {
            if (faults[fault] < TEXTS / 100) {
                wrong++;
                System.out.println("too few texts with fault " + fault + ": " + faults[fault]);
            }
        }
        if (wrong > 0) {
            System.exit(1);
        }
        System.out.println(TEXTS + " random texts told as by the model, " + faults[0] + " of them good");
    }

    // ---- asked

    private static boolean alike(SnowScore real, Model model, String text, Random random) {
        put(real, text);
        String padded = text + " ".repeat((20 - text.length() % 20) % 20);
        for (int i = 0; i < padded.length(); i += 20) {
            int[] n = new int[5];
            for (int j = 0; j < 20; j++) {
                n[j / 4] = n[j / 4] << 8 | padded.charAt(i + j);
            }
            model.feed(n[0], n[1], n[2], n[3], n[4]);
        }
        boolean same = real.text(text.length()) == model.text(text.length());
        for (int what = 0; what < 2; what++) {
            same &= real.fault(what) == model.fault(what);
        }
        for (int what = 0; what < 14; what++) {
            same &= real.count(what) == model.count(what);
        }
        return same && walkedAlike(real, model, random);
    }

    /** The laws worked out where walkers go, and for the marks that they leave. */
    private static boolean walkedAlike(SnowScore real, Model model, Random random) {
        boolean same = true;
        for (int i = 0; i < 5 && same; i++) {
            for (int walker = 0; walker < real.count(3); walker++) {
                int way = random.nextInt(4);
                same &= real.step(walker, way) == model.step(walker, way);
                same &= real.law(2, walker) == model.law(2, walker);
            }
            if (i == 3) {
                same &= real.fall(2) == model.fall(2) && real.hours(3) == model.hours(3) && real.thaw(3) == model.thaw(3);
            }
        }
        for (int mark = 0; mark < real.count(7); mark++) {
            same &= real.law(0, mark) == model.law(0, mark) && real.law(1, mark) == model.law(1, mark)
                && real.mark(mark, 4) == model.mark(mark, 4);
        }
        return same;
    }

    // ---- texts

    private boolean oneIn(int times) {
        return random.nextInt(times) == 0;
    }

    private String text() {
        StringBuilder text = new StringBuilder();
        if (oneIn(12)) {
            text.append("field ").append(random.nextInt(10)).append(' ').append(random.nextInt(8)).append(';');
        } else if (oneIn(3)) {
            text.append("field 7 5;");
        }
        switch (random.nextInt(4)) {
            case 0 -> addTrees(text);
            case 1 -> addCast(text);
            default -> addFarmsAndWalkers(text);
        }
        if (oneIn(25)) {
            text.append("field 2 2;");
        }
        if (oneIn(4)) {
            text.append(oneIn(12) ? "seed 100000;" : oneIn(12) ? "seed 1;seed 1;" : "seed 99999;");
        }
        for (String kind : new String[] {"deep", "fade", "score"}) {
            addLaw(text, oneIn(25) ? "deep" : kind);
        }
        if (oneIn(3)) {
            spoil(text);
        }
        text.setLength(Math.min(700, text.length()));
        return text.toString();
    }

    private void addTrees(StringBuilder text) {
        int count = 10 + random.nextInt(5);
        for (int i = 0; i < count; i++) {
            int cell = oneIn(60) ? 0 : i;
            text.append(oneIn(9) ? "ice " : "tree ").append(cell % 6).append(' ').append(cell / 6).append(';');
        }
    }

    private void addCast(StringBuilder text) {
        text.append("cast");
        int count = 22 + random.nextInt(4);
        for (int i = 0; i < count; i++) {
            text.append(' ').append(oneIn(150) ? 101 : random.nextInt(101));
        }
        text.append(';');
    }

    private void addFarmsAndWalkers(StringBuilder text) {
        int farms = oneIn(8) ? random.nextInt(5) : 1 + random.nextInt(3);
        for (int i = 0; i < farms; i++) {
            text.append("farm ").append("abcd".charAt(oneIn(60) ? 0 : i)).append(' ').append(random.nextInt(3)).append(' ')
                .append(random.nextInt(3)).append(oneIn(60) ? " 0 " : " 3 ").append(oneIn(60) ? "7;" : oneIn(20) ? "1;" : "3;");
        }
        int walkers = oneIn(8) ? random.nextInt(7) : 1 + random.nextInt(5);
        for (int i = 0; i < walkers; i++) {
            text.append("walker ").append("abcdefg".charAt(oneIn(60) ? 0 : i)).append(oneIn(15) ? "now " : " ")
                .append("abcd".charAt(oneIn(60) ? 3 : 0)).append(' ').append(oneIn(60) ? random.nextInt(2) * 61 : 1 + random.nextInt(60))
                .append(' ').append(oneIn(60) ? 4 : 1 + random.nextInt(3)).append(' ').append(random.nextInt(6)).append(' ')
                .append(random.nextInt(5)).append(';');
        }
    }

    private void addLaw(StringBuilder text, String kind) {
        switch (random.nextInt(6)) {
            case 0 -> text.append("law ").append(kind).append(' ').append(manyOpen()).append(';');
            case 1 -> text.append("law ").append(kind).append(' ').append(manyKnots()).append(';');
            case 2, 3 -> {
                parts = 5 + random.nextInt(25);
                text.append("law ").append(kind).append(' ').append(either(random.nextInt(9))).append(';');
            }
            default -> {
            }
        }
    }

    private String manyOpen() {
        int open = 6 + random.nextInt(4);
        int shut = oneIn(6) ? open + random.nextInt(3) - 1 : open;
        StringBuilder law = new StringBuilder();
        for (int i = 0; i < open; i++) {
            law.append(oneIn(4) ? "1+(" : oneIn(4) ? "not (" : "(");
        }
        law.append("far");
        for (int i = 0; i < shut; i++) {
            law.append(oneIn(4) ? "*2)" : ")");
        }
        return law.toString();
    }

    private String manyKnots() {
        int knots = oneIn(5) ? 58 + random.nextInt(10) : 5 + random.nextInt(30);
        StringBuilder law = new StringBuilder();
        for (int i = 0; i < knots / 2; i++) {
            String sign = oneIn(5) ? " or " : oneIn(4) ? " and " : oneIn(4) ? "-" : random.nextBoolean() ? "+" : "*";
            law.append(i > 0 ? sign : "").append(oneIn(9) ? "(far)" : oneIn(4) ? "9999" : String.valueOf(random.nextInt(10)));
        }
        return law.toString();
    }

    // ---- expressions, as the document's grammar has them

    private String either(int deep) {
        StringBuilder text = new StringBuilder(both(deep));
        while (oneIn(4)) {
            text.append(" or ").append(both(deep));
        }
        return text.toString();
    }

    private String both(int deep) {
        StringBuilder text = new StringBuilder(denied(deep));
        while (oneIn(4)) {
            text.append(" and ").append(denied(deep));
        }
        return text.toString();
    }

    private String denied(int deep) {
        if (oneIn(5)) {
            return "not " + denied(deep);
        }
        String left = sum(deep);
        return oneIn(3) ? left + COMPARING[oneIn(20) ? 6 + random.nextInt(2) : random.nextInt(6)] + sum(deep) : left;
    }

    private String sum(int deep) {
        StringBuilder text = new StringBuilder(product(deep));
        while (parts > 0 && oneIn(3)) {
            text.append(random.nextBoolean() ? "+" : " - ").append(product(deep));
        }
        return text.toString();
    }

    private String product(int deep) {
        StringBuilder text = new StringBuilder(part(deep));
        while (parts > 0 && oneIn(3)) {
            text.append(random.nextBoolean() ? "*" : "/").append(part(deep));
        }
        return text.toString();
    }

    private String part(int deep) {
        parts--;
        if (parts > 0 && deep > 0 && random.nextBoolean()) {
            return "(" + either(deep - 1) + ")";
        }
        if (random.nextBoolean()) {
            return NAMES[random.nextInt(NAMES.length)];
        }
        return oneIn(120) ? "10000" : oneIn(12) ? "0009999" : String.valueOf(random.nextInt(10));
    }

    private void spoil(StringBuilder text) {
        int times = 1 + random.nextInt(2);
        for (int i = 0; i < times && text.length() > 0; i++) {
            int place = random.nextInt(text.length());
            String piece = PIECES[random.nextInt(PIECES.length)];
            switch (random.nextInt(7)) {
                case 0 -> text.setLength(place);
                case 1, 2 -> text.deleteCharAt(place);
                case 3, 4 -> text.setCharAt(place, piece.charAt(0));
                default -> text.insert(place, piece);
            }
        }
    }
}
