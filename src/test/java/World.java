import java.util.ArrayList;
import java.util.List;

/** An object in which all there is has come about, and all that can be asked of it: what a refused call must leave. */
final class World extends Telling {
    static final String TEXT = "field 4 2;tree 3 0;ice 0 1;farm f 0 0 1 1;farm g 2 0 3 1;walker w f 20 1 0 0;"
        + "walker v g 10 2 2 1;cast 50 20 100;seed 7;law deep weight;law fade 1;law score 1+age;";
    static final int CELLS = 8;
    static final int FARMS = 2;
    static final int WALKERS = 2;
    static final int MARKS = 5;
    static final int CLAIMS = 3;
    static final int CAN_BE_UNDONE = 7;
    /** On the tape at the end. */
    static final String TAPE = "seed 5;";

    /** How a part of an object is looked at; it may be used up by that. */
    interface View {
        List<Long> of(SnowScore x);
    }

    static final View[] VIEWS = {World::asked, World::undone, World::nights, World::image};
    static final View[] TAPE_VIEWS = {World::tape, World::fault};

    private World() {
    }

    /** Debts, marks bare and covered and blurred, boots, an image, claims, what can be undone, bytes on the tape. */
    static SnowScore made() {
        SnowScore x = told(TEXT);
        walk(x, 0, 1, 1, 3);
        x.winter();
        walk(x, 0, 1, 1);
        x.hours(2);
        x.keep();
        x.fall(2);
        walk(x, 1, 3, 0);
        x.boots(1, 0);
        walk(x, 0, 1, 2, 3);
        x.fox(6, 1, 1);
        x.claim(1, 1, 0, 9);
        x.claim(2, 0, 0, 9);
        x.strike(1);
        x.known(2);
        put(x, TAPE);
        return x;
    }

    private static List<Long> asked(SnowScore x) {
        List<Long> all = new ArrayList<>();
        for (int what = 0; what < 14; what++) {
            all.add((long) x.count(what));
        }
        for (int walker = 0; walker < WALKERS; walker++) {
            for (int what = 0; what < 5; what++) {
                all.add((long) x.look(walker, what));
            }
            all.add(x.law(2, walker));
        }
        for (int cell = 0; cell < CELLS; cell++) {
            for (int what = 0; what < 4; what++) {
                all.add((long) x.cell(cell, what));
            }
            all.add((long) x.read(cell));
        }
        for (int mark = 0; mark < x.count(7); mark++) {
            for (int what = 0; what < 8; what++) {
                all.add((long) x.mark(mark, what));
            }
            all.add(x.law(0, mark));
            all.add(x.law(1, mark));
            all.add((long) x.trail(mark));
        }
        for (int farm = 0; farm < FARMS; farm++) {
            all.add((long) x.score(farm, 0));
            all.add((long) x.score(farm, 1));
        }
        askTheRest(x, all);
        return all;
    }

    private static void askTheRest(SnowScore x, List<Long> all) {
        all.add((long) x.ahead());
        all.add((long) x.judged());
        all.add((long) x.forged());
        all.add((long) x.layers());
        all.add((long) x.below(2));
        all.add((long) x.quiet(0, 7, 0));
        all.add((long) x.covered(0, 2, 0));
        all.add((long) x.best(0, 23, 1));
        all.add(x.sees(1));
        all.add((long) x.named(0, letters("g")));
        all.add((long) x.named(1, letters("v")));
        all.add((long) x.chance(3, 4, 1, 2));
        // To be known by all shows every claim there is.
        x.known(-1);
        all.add((long) x.judged());
    }

    private static List<Long> undone(SnowScore x) {
        List<Long> all = new ArrayList<>();
        for (int i = 0; i < 22; i++) {
            all.add((long) x.undo());
            for (int walker = 0; walker < WALKERS; walker++) {
                all.add((long) x.look(walker, 0));
                all.add((long) x.look(walker, 2));
                all.add((long) x.look(walker, 3));
            }
            for (int what = 7; what < 10; what++) {
                all.add((long) x.count(what));
            }
            all.add((long) x.read(6));
        }
        return all;
    }

    private static List<Long> nights(SnowScore x) {
        List<Long> all = new ArrayList<>();
        for (int i = 0; i < 12; i++) {
            all.add((long) x.night());
            all.add((long) x.count(5));
            all.add((long) x.count(6));
        }
        return all;
    }

    private static List<Long> image(SnowScore x) {
        List<Long> all = new ArrayList<>();
        all.add((long) x.back());
        all.addAll(asked(x));
        return all;
    }

    private static List<Long> tape(SnowScore x) {
        List<Long> all = new ArrayList<>();
        all.add((long) x.feed(0x63617374, 0x20373b20, 0x20202020, 0x20202020, 0x20202020));
        all.add((long) x.text(40));
        all.add((long) x.covered(0, 1, 0));
        all.add((long) x.night());
        return all;
    }

    private static List<Long> fault(SnowScore x) {
        List<Long> all = new ArrayList<>();
        all.add((long) x.fault(0));
        all.add((long) x.fault(1));
        return all;
    }
}
