import java.util.ArrayList;
import java.util.List;

/** The sentences on what is undone and on images: the fourth part of the terms, promises 43 to 46. */
final class UndoEdges extends Telling {
    /** One row; f has the left end, g the rest; both walkers step by one. */
    private static final String ROW = "field 8 1;farm f 0 0 0 0;farm g 1 0 7 0;walker w f 20 1 0 0;walker v g 10 1 7 0;";

    /** Something that is done to an object. */
    private interface Deed {
        void to(SnowScore x);
    }

    private UndoEdges() {
    }

    static void run(Edges e) {
        e.sentence("T4", "STEPS,", UndoEdges::stepsUndone);
        e.sentence("T4", "BOOTS,", UndoEdges::bootsUndone);
        e.sentence("T4", "FOXES that blurred any,", UndoEdges::foxesUndone);
        e.sentence("T4", "by call, can be undone,", UndoEdges::undoneByCall);
        e.sentence("T4", "the latest first (20 at most),", UndoEdges::latestFirst);
        e.sentence("T4", "can be undone, the latest first (20 at most),", UndoEdges::anyDeeds);
        e.sentence("T4", "if no HOUR, FALL, THAW, NIGHT went by and no WINTER ended since.", UndoEdges::noneSince);
        e.sentence("T4", "An IMAGE keeps all but CLAIMS.", UndoEdges::allButClaims);
        e.sentence("43", "The latest is undone: how many are left;", UndoEdges::howManyAreLeft);
        e.sentence("43", "NONE: none.", UndoEdges::noneToUndo);
        e.sentence("44", "An IMAGE is kept (in place of one ahead):", UndoEdges::inPlaceOfOneAhead);
        e.sentence("44", "which HOUR it is.", UndoEdges::hourOfKeep);
        e.sentence("45", "All (but CLAIMS) is as in the IMAGE", UndoEdges::asInTheImage);
        e.sentence("45", "(nothing to undo then):", UndoEdges::nothingToUndoThen);
        e.sentence("45", "which HOUR it is;", UndoEdges::hourOfBack);
        e.sentence("45", "NONE: there is none.", UndoEdges::noImage);
        e.sentence("46", "0 WIDE, 1 HIGH, 2 FARMS, 3 WALKERS, 4 KNOTS, 5 the HOUR, 6 SNOW, 7 MARKS (GONE ones, too),"
            + " 8 MARKS that aren't GONE, 9 MARKS READ, 10 WINTERS ended, 11 CLAIMS, 12 by how many it is KNOWN,"
            + " 13 what can be undone.", UndoEdges::counts);
        e.sentence("46", "7 MARKS (GONE ones, too), 8 MARKS that aren't GONE, 9 MARKS READ,", UndoEdges::countsOfMarks);
        e.sentence("46", "12 by how many it is KNOWN,", UndoEdges::countOfKnown);
        e.sentence("46", "NONE for another what.", UndoEdges::noSuchCount);
    }

    /** All that steps, boots and foxes change. */
    private static List<Integer> stateOf(SnowScore x) {
        List<Integer> all = new ArrayList<>();
        for (int walker = 0; walker < x.count(3); walker++) {
            all.add(x.look(walker, 0));
            all.add(x.look(walker, 2));
            all.add(x.look(walker, 3));
        }
        for (int mark = 0; mark < x.count(7); mark++) {
            for (int what = 0; what < 8; what++) {
                all.add(x.mark(mark, what));
            }
        }
        for (int cell = 0; cell < x.count(0) * x.count(1); cell++) {
            all.add(x.read(cell));
        }
        return all;
    }

    /** All that World asks but for what can be undone. */
    private static List<Long> allButUndo(SnowScore x) {
        List<Long> all = new ArrayList<>(World.VIEWS[0].of(x));
        // The 14th number of these is count(13).
        all.remove(13);
        // Being known by all is not of the image.
        x.known(2);
        return all;
    }

    private static List<Integer> nightsOf(SnowScore x) {
        List<Integer> all = new ArrayList<>();
        for (int i = 0; i < 40; i++) {
            all.add(x.night());
            all.addAll(stateOf(x));
        }
        return all;
    }

    /** What a deed does is undone by one call, and by no other. */
    private static void undoes(Edges e, String what, SnowScore x, Deed deed) {
        List<Integer> ahead = stateOf(x);
        int can = x.count(13);
        deed.to(x);
        e.due(what + ": one more can be undone", x.count(13), can + 1);
        e.due(what + ": something is done", stateOf(x).equals(ahead), false);
        e.due(what + ": undone", x.undo(), can);
        e.due(what + ": all as it was", stateOf(x).equals(ahead), true);
        e.due(what + ": can be undone as before", x.count(13), can);
    }

    /** A deed that does nothing leaves nothing to undo. */
    private static void leavesNone(Edges e, String what, SnowScore x, Deed deed) {
        List<Integer> ahead = stateOf(x);
        int can = x.count(13);
        deed.to(x);
        e.due(what + ": no more can be undone", x.count(13), can);
        e.due(what + ": all as it was", stateOf(x).equals(ahead), true);
    }

    // ---- what can be undone

    private static void stepsUndone(Edges e) {
        String text = "field 3 3;tree 1 0;ice 0 1;farm f 0 0 2 2;walker w f 9 1 1 1;walker v f 9 3 1 1;";
        for (int way = 0; way < 4; way++) {
            int by = way;
            undoes(e, "a step by " + way, told(text), x -> x.step(0, by));
            undoes(e, "a step without a mark by " + way, told(text), x -> x.step(1, by));
        }
        SnowScore x = told(text);
        e.due("into a tree", x.step(0, 0), 1);
        e.due("no mark by that", x.count(7), 0);
        undoes(e, "from a tree", x, y -> y.step(0, 1));
        x = told(text);
        walk(x, 1, 1, 3);
        undoes(e, "the third step of a gait of 3", x, y -> y.step(1, 2));
        x.step(1, 2);
        e.due("it leaves its mark again", x.count(7), 1);
        x.undo();
        leavesNone(e, "a step that isn't", x, y -> y.step(1, 4));
        leavesNone(e, "a step of nobody", x, y -> y.step(2, 0));
        x = told(ROW);
        leavesNone(e, "a step outside", x, y -> y.step(0, 3));
        // The mark below is read again, and a mark that comes then has the number of the one undone.
        walk(x, 0, 1, 1, 3);
        e.due("above", x.cell(1, 3), 2);
        x.undo();
        e.due("below", x.cell(1, 3), 0);
        e.due("no mark 2", x.mark(2, 0), -1);
        walk(x, 0, 1);
        e.due("mark 2 in another cell", x.mark(2, 1), 3);
        // Room for a mark by a step undone.
        x = told("field 2 1;farm f 0 0 1 0;walker w f 9 1 0 0;");
        for (int i = 0; i < 45; i++) {
            walk(x, 0, 1, 3);
        }
        leavesNone(e, "a step with a 91st mark", x, y -> y.step(0, 1));
        x.undo();
        undoes(e, "the 90th mark again", x, y -> y.step(0, 3));
    }

    private static void bootsUndone(Edges e) {
        SnowScore x = told(ROW + "walker u g 9 1 3 0;");
        undoes(e, "another one's", x, y -> y.boots(0, 1));
        x.boots(0, 1);
        undoes(e, "a third one's", x, y -> y.boots(0, 2));
        e.due("the second one's behind that", x.look(0, 3), 1);
        undoes(e, "own ones again", x, y -> y.boots(0, 0));
        leavesNone(e, "those that one has", x, y -> y.boots(0, 1));
        leavesNone(e, "nobody's", x, y -> y.boots(0, 3));
        leavesNone(e, "of nobody", x, y -> y.boots(-1, 0));
    }

    private static void foxesUndone(Edges e) {
        SnowScore x = told(ROW);
        walk(x, 0, 1, 1, 1, 1);
        undoes(e, "over one", x, y -> y.fox(2, 0, 1));
        undoes(e, "over all", x, y -> y.fox(0, 1, 8));
        x.fox(2, 1, 2);
        undoes(e, "over some blurred ahead", x, y -> y.fox(0, 1, 8));
        e.due("those ahead stay blurred", x.mark(1, 7) * 10 + x.mark(2, 7), 11);
        e.due("the others don't", x.mark(0, 7) * 10 + x.mark(3, 7), 0);
        leavesNone(e, "over blurred ones alone", x, y -> y.fox(2, 1, 2));
        leavesNone(e, "over bare snow", x, y -> y.fox(6, 1, 2));
        leavesNone(e, "over too many", x, y -> y.fox(0, 1, 9));
        x = told("field 8 1;farm f 0 0 7 0;walker w f 9 1 0 0;");
        walk(x, 0, 1, 1, 1, 1, 1, 1, 1, 3, 3, 3, 3, 3, 3, 3);
        undoes(e, "over eight", x, y -> y.fox(7, 3, 8));
        // A fox that did nothing spoils what another one has to undo.
        x.fox(0, 1, 8);
        x.fox(0, 1, 8);
        x.undo();
        e.due("none of eight is blurred", x.fox(0, 1, 8), 8);
    }

    private static void undoneByCall(Edges e) {
        SnowScore x = told(ROW);
        walk(x, 0, 1, 1, 1);
        e.due("three steps", x.count(13), 3);
        e.due("over three", x.fox(1, 1, 3), 3);
        e.due("one call", x.count(13), 4);
        x.boots(0, 1);
        x.boots(1, 0);
        e.due("two pairs of boots", x.count(13), 6);
        x.undo();
        e.due("one pair", x.look(0, 3) * 10 + x.look(1, 3), 11);
        x.undo();
        x.undo();
        e.due("the whole fox", x.mark(0, 7) + x.mark(1, 7) + x.mark(2, 7), 0);
        e.due("the steps stay", x.look(0, 2), 3);
    }

    /** Deeds of all kinds, each of which can be undone. */
    private static void deed(SnowScore x, int i) {
        switch (i % 5) {
            case 0 -> x.step(0, i % 10 == 0 ? 1 : 3);
            case 1 -> x.boots(1, x.look(1, 3) == 0 ? 1 : 0);
            case 2 -> x.step(1, i % 10 == 2 ? 3 : 1);
            case 3 -> x.boots(0, x.look(0, 3) == 0 ? 1 : 0);
            default -> x.fox(x.look(1, 0), 1, 1);
        }
    }

    private static void latestFirst(Edges e) {
        for (int deeds = 1; deeds <= 45; deeds++) {
            SnowScore x = told(ROW);
            List<List<Integer>> states = new ArrayList<>();
            for (int i = 0; i < deeds; i++) {
                states.add(stateOf(x));
                int can = x.count(13);
                deed(x, i);
                e.due("deed " + i + " can be undone", x.count(13), Math.min(20, can + 1));
            }
            for (int i = deeds - 1; i >= Math.max(0, deeds - 20); i--) {
                e.due("deed " + i + " of " + deeds + " is undone", x.undo(), i - Math.max(0, deeds - 20));
                e.due("as ahead of deed " + i + " of " + deeds, stateOf(x).equals(states.get(i)), true);
            }
            e.due("no more of " + deeds, x.undo(), -1);
        }
        // Undone, done again and over the bound once more.
        SnowScore x = told(ROW);
        List<List<Integer>> states = new ArrayList<>();
        for (int i = 0; i < 25; i++) {
            states.add(stateOf(x));
            deed(x, i);
        }
        for (int i = 0; i < 10; i++) {
            x.undo();
        }
        for (int i = 15; i < 30; i++) {
            if (i >= states.size()) {
                states.add(stateOf(x));
            }
            deed(x, i);
        }
        for (int i = 29; i >= 10; i--) {
            e.due("deed " + i + " done again is undone", x.undo(), i - 10);
            e.due("as ahead of deed " + i + " done again", stateOf(x).equals(states.get(i)), true);
        }
        e.due("no more than 20 of those", x.undo(), -1);
    }

    /** Any deed that can be undone, by a number: whether it did something. */
    private static boolean anyDeed(SnowScore x, int number) {
        int kind = number % 7;
        int more = number / 7;
        if (kind < 3) {
            return x.step(more % 2, more / 2 % 4) >= 0;
        }
        if (kind == 3) {
            return x.boots(more % 2, more / 2 % 2);
        }
        return x.fox(more % 16, more / 16 % 4, 1 + more / 64 % 8) > 0;
    }

    private static void anyDeeds(Edges e) {
        for (int seed = 0; seed < 40; seed++) {
            SnowScore x = told("field 8 2;tree 3 1;farm f 0 0 7 1;walker w f 20 1 0 0;walker v f 20 2 7 1;");
            Numbers numbers = new Numbers(seed);
            List<List<Integer>> states = new ArrayList<>();
            for (int i = 0; i < 90; i++) {
                List<Integer> ahead = stateOf(x);
                if (numbers.next() % 4 == 0) {
                    int left = states.size() - 1;
                    e.due("seed " + seed + ": undo", x.undo(), left);
                    e.due("seed " + seed + ": as it was", stateOf(x).equals(left < 0 ? ahead : states.remove(left)), true);
                } else if (anyDeed(x, numbers.next())) {
                    states.add(ahead);
                    if (states.size() > 20) {
                        states.remove(0);
                    }
                }
                e.due("seed " + seed + ": can be undone", x.count(13), states.size());
            }
        }
    }

    private static void noneSince(Edges e) {
        Deed[] hindering = {x -> x.hours(1), x -> x.hours(99), x -> x.fall(1), x -> x.fall(99), x -> x.thaw(1), x -> x.thaw(99),
            x -> x.night(), x -> x.winter()};
        for (int i = 0; i < hindering.length; i++) {
            SnowScore x = told(ROW);
            walk(x, 0, 1, 1);
            x.boots(0, 1);
            x.fox(1, 1, 1);
            hindering[i].to(x);
            e.due("count behind " + i, x.count(13), 0);
            List<Integer> behind = stateOf(x);
            e.due("none behind " + i, x.undo(), -1);
            e.due("nothing is undone by that, " + i, stateOf(x).equals(behind), true);
            x.boots(1, 0);
            e.due("since then one, " + i, x.undo(), 0);
            e.due("and no more, " + i, x.undo(), -1);
        }
        // A night of nothing is a night; a fall on no marks, a thaw without snow, too.
        SnowScore x = told(ROW + "seed 2;");
        for (int i = 0; i < 12; i++) {
            x.boots(0, 1 - x.look(0, 3));
            x.night();
            e.due("none behind night " + i, x.undo(), -1);
        }
        Deed[] harmless = {y -> y.hours(0), y -> y.hours(-1), y -> y.hours(100), y -> y.fall(0), y -> y.fall(100), y -> y.thaw(0),
            y -> y.thaw(100), y -> y.keep(), y -> y.claim(0, 0, 0, 0), y -> y.known(0), y -> y.chance(0, 9, 0, 0),
            y -> y.tried(0, 4, 99), y -> y.below(999), y -> y.text(-1), y -> tell(y, "seed"), y -> tell(y, "tree 9 9;"),
            y -> y.strike(0), y -> y.quiet(0, 7, 0), y -> y.umpires(1)};
        for (int i = 0; i < harmless.length; i++) {
            x = told(ROW);
            walk(x, 0, 1);
            harmless[i].to(x);
            e.due("one behind the harmless " + i, x.undo(), 0);
            e.due("where it was, " + i, x.look(0, 0), 0);
        }
        // A night that is refused isn't one that went by.
        x = told(ROW);
        for (int i = 0; i < 101; i++) {
            x.hours(99);
        }
        walk(x, 0, 1);
        e.due("no night", x.night(), -100);
        e.due("no hour", x.hours(1), -1);
        e.due("it can be undone", x.undo(), 0);
    }

    // ---- images

    /** The deeds that an image is held against: each changes something. */
    private static final Deed[] DEEDS = {
        x -> x.step(0, 0), x -> x.step(1, 3), x -> x.boots(0, 1), x -> x.boots(1, 1), x -> x.fox(7, 3, 8), x -> x.fox(1, 1, 1),
        x -> x.hours(1), x -> x.hours(50), x -> x.fall(1), x -> x.fall(99), x -> x.thaw(1), x -> x.thaw(99), x -> x.night(),
        x -> x.winter(), x -> walk(x, 1, 3, 2, 1, 1, 0), x -> x.undo(), x -> {
            x.winter();
            walk(x, 0, 1, 2, 1, 1);
            x.hours(9);
            x.winter();
            walk(x, 1, 0, 3);
            x.fall(7);
        }, x -> {
            for (int i = 0; i < 30; i++) {
                x.night();
            }
        },
    };

    private static void allButClaims(Edges e) {
        for (int i = 0; i < DEEDS.length; i++) {
            SnowScore x = World.made();
            x.keep();
            DEEDS[i].to(x);
            x.back();
            e.due("all that is asked, deed " + i, allButUndo(x).equals(allButUndo(World.made())), true);
            x.back();
            e.due("all that is asked, deed " + i + ", again", allButUndo(x).equals(allButUndo(World.made())), true);
            x.back();
            e.due("the nights behind deed " + i, nightsOf(x).equals(nightsOf(World.made())), true);
        }
        // CLAIMS and strikes that came since stay, and so does by how many they are known.
        SnowScore x = World.made();
        x.keep();
        x.claim(5, 0, 0, 0);
        x.strike(0);
        x.known(4);
        x.back();
        e.due("CLAIMS", x.count(11), World.CLAIMS + 2);
        e.due("KNOWN", x.count(12), 4);
        e.due("judged by them", x.judged(), 3);
        x.known(-1);
        e.due("all", x.judged(), 3);
        x.strike(3);
        e.due("all struck or so", x.judged(), -1);
    }

    private static void inPlaceOfOneAhead(Edges e) {
        SnowScore x = told(ROW);
        x.keep();
        walk(x, 0, 1);
        x.keep();
        walk(x, 0, 1);
        x.back();
        e.due("the later one", x.look(0, 0), 1);
        x.back();
        e.due("it stays", x.look(0, 0), 1);
        walk(x, 0, 1, 1, 1);
        x.back();
        e.due("again and again", x.look(0, 0), 1);
        e.due("with its mark", x.count(7), 1);
        x.winter();
        x.keep();
        x.hours(1);
        x.back();
        e.due("one without marks in place of one with some", x.count(7), 0);
        e.due("a winter ended", x.count(10), 1);
        // Beside the image all stays.
        for (int view = 0; view < 3; view++) {
            SnowScore a = World.made();
            SnowScore b = World.made();
            a.keep();
            e.due("all stays behind keep, view " + view, World.VIEWS[view].of(a).equals(World.VIEWS[view].of(b)), true);
        }
        for (int view = 0; view < World.TAPE_VIEWS.length; view++) {
            SnowScore a = World.made();
            SnowScore b = World.made();
            a.keep();
            e.due("the tape stays behind keep, view " + view,
                World.TAPE_VIEWS[view].of(a).equals(World.TAPE_VIEWS[view].of(b)), true);
        }
    }

    private static void hourOfKeep(Edges e) {
        SnowScore x = new SnowScore();
        e.due("0", x.keep(), 0);
        x.hours(7);
        e.due("7", x.keep(), 7);
        x.night();
        e.due("8", x.keep(), 8);
        x.back();
        e.due("8 again", x.keep(), 8);
        x.winter();
        e.due("8 behind a winter", x.keep(), 8);
        for (int i = 0; i < 101; i++) {
            x.hours(99);
        }
        x.hours(9999 - x.count(5));
        e.due("9999", x.keep(), 9999);
    }

    private static void asInTheImage(Edges e) {
        SnowScore x = World.made();
        e.due("to the image", x.back(), 2);
        int[] counts = {4, 2, 2, 2, 5, 2, 0, 2, 2, 2, 1, 3, 2, 0};
        for (int what = 0; what < counts.length; what++) {
            e.due("count(" + what + ")", x.count(what), counts[what]);
        }
        e.due("w", x.look(0, 0) * 100 + x.look(0, 2) * 10 + x.look(0, 3), 220);
        e.due("v", x.look(1, 0) * 100 + x.look(1, 2) * 10 + x.look(1, 3), 601);
        e.due("DEEP", x.mark(0, 4), 18);
        e.due("COVER", x.mark(0, 5), 0);
        e.due("the debt of g", x.score(1, 1), 1);
        // The numbers of nights, too: they go on from those of the image.
        x = told(ROW + "seed 4;");
        Numbers numbers = new Numbers(4);
        e.due("a night", x.night(), numbers.nextNight());
        x.keep();
        int second = numbers.nextNight();
        int third = numbers.nextNight();
        for (int i = 0; i < 3; i++) {
            e.due("the second night, " + i, x.night(), second);
            e.due("the third night, " + i, x.night(), third);
            x.back();
        }
        // A blurred mark, and one that is no more in the list.
        x = told(ROW);
        walk(x, 0, 1, 1);
        x.keep();
        x.fox(1, 1, 2);
        x.winter();
        x.back();
        e.due("not blurred", x.read(1) * 10 + x.read(2), 0);
        x.fox(1, 1, 1);
        x.keep();
        x.undo();
        e.due("undone", x.read(1), 0);
        x.back();
        e.due("blurred as it was kept", x.read(1), -3);
    }

    private static void nothingToUndoThen(Edges e) {
        SnowScore x = told(ROW);
        walk(x, 0, 1, 1);
        x.keep();
        walk(x, 0, 1, 1);
        x.boots(0, 1);
        e.due("some", x.count(13), 5);
        x.back();
        e.due("count(13)", x.count(13), 0);
        e.due("none", x.undo(), -1);
        e.due("nothing is undone by that", x.look(0, 0) * 10 + x.count(7), 22);
        walk(x, 0, 1);
        e.due("one since", x.undo(), 0);
        e.due("where it was kept", x.look(0, 0), 2);
        x.back();
        x.boots(0, 1);
        x.back();
        e.due("even right behind", x.undo(), -1);
    }

    private static void hourOfBack(Edges e) {
        SnowScore x = told(ROW);
        x.hours(3);
        x.keep();
        x.hours(99);
        e.due("3", x.back(), 3);
        e.due("count(5)", x.count(5), 3);
        e.due("3 again", x.back(), 3);
        e.due("it goes on from there", x.hours(1), 4);
        x = new SnowScore();
        x.keep();
        e.due("0", x.back(), 0);
        for (int i = 0; i < 101; i++) {
            x.hours(99);
        }
        x.keep();
        e.due("9999", x.back(), 9999);
    }

    private static void noImage(Edges e) {
        e.due("a new object", new SnowScore().back(), -1);
        SnowScore x = told(ROW);
        e.due("behind a text", x.back(), -1);
        walk(x, 0, 1);
        e.due("nothing changes", x.back() * 10 + x.look(0, 0), -9);
        e.due("it can be undone still", x.count(13), 1);
        x.keep();
        tell(x, "seed");
        e.due("a text with a fault leaves it", x.back(), 0);
        tell(x, ROW);
        e.due("a good one doesn't", x.back(), -1);
        x.keep();
        x.text(0);
        e.due("one without lines doesn't, too", x.back(), -1);
        x = told(ROW);
        x.keep();
        x.winter();
        e.due("a winter leaves it", x.back(), 0);
    }

    // ---- counts

    private static void counts(Edges e) {
        int[] counts = {4, 2, 2, 2, 5, 2, 2, 5, 5, 3, 1, 3, 2, 7};
        SnowScore x = World.made();
        for (int what = 0; what < counts.length; what++) {
            e.due("count(" + what + ")", x.count(what), counts[what]);
            int one = what;
            e.asks("count(" + what + ")", y -> y.count(one));
        }
        e.due("CAN_BE_UNDONE", x.count(13), World.CAN_BE_UNDONE);
        e.due("MARKS", x.count(7), World.MARKS);
    }

    private static void countsOfMarks(Edges e) {
        SnowScore x = told(ROW);
        walk(x, 0, 1, 1, 3);
        walk(x, 1, 3);
        e.due("four, four, three", x.count(7) * 100 + x.count(8) * 10 + x.count(9), 443);
        x.thaw(10);
        e.due("v's is gone", x.count(7) * 100 + x.count(8) * 10 + x.count(9), 432);
        x.fall(1);
        e.due("none is read", x.count(7) * 100 + x.count(8) * 10 + x.count(9), 430);
        walk(x, 1, 3);
        x.fox(5, 0, 1);
        e.due("a blurred one is read", x.count(7) * 100 + x.count(8) * 10 + x.count(9), 541);
        x.thaw(99);
        e.due("all gone", x.count(7) * 100 + x.count(8) * 10 + x.count(9), 500);
        x.winter();
        e.due("off the list", x.count(7) * 100 + x.count(8) * 10 + x.count(9), 0);
    }

    private static void countOfKnown(Edges e) {
        SnowScore x = told(ROW);
        e.due("all of none", x.count(12), 0);
        x.claim(0, 0, 0, 0);
        x.strike(0);
        e.due("all of two", x.count(12), 2);
        x.known(1);
        e.due("by 1", x.count(12), 1);
        x.claim(0, 0, 0, 0);
        e.due("by 1 still", x.count(12), 1);
        x.known(9);
        e.due("by 1, as 9 is refused", x.count(12), 1);
        x.known(0);
        e.due("by 0", x.count(12), 0);
        x.known(-1);
        e.due("all of three", x.count(12), 3);
    }

    private static void noSuchCount(Edges e) {
        e.bounds("count", SnowScore::count, -1, 0, 13);
        e.due("14 of a new object", new SnowScore().count(14), -1);
        e.due("-1 of a new object", new SnowScore().count(-1), -1);
    }

    // ---- what undo answers

    private static void howManyAreLeft(Edges e) {
        SnowScore x = World.made();
        for (int left = World.CAN_BE_UNDONE - 1; left >= 0; left--) {
            e.due("left", x.undo(), left);
            e.due("count(13)", x.count(13), left);
        }
        e.due("none is left", x.undo(), -1);
        e.due("back to where it fell: w", x.look(0, 0) * 100 + x.look(0, 2) * 10 + x.look(0, 3), 220);
        e.due("back to where it fell: v", x.look(1, 0) * 100 + x.look(1, 2) * 10 + x.look(1, 3), 601);
        e.due("MARKS", x.count(7), 2);
    }

    private static void noneToUndo(Edges e) {
        e.due("a new object", new SnowScore().undo(), -1);
        SnowScore x = told(ROW);
        e.due("behind a text", x.undo(), -1);
        walk(x, 0, 1);
        x.undo();
        List<Integer> state = stateOf(x);
        for (int i = 0; i < 25; i++) {
            e.due("again and again", x.undo(), -1);
        }
        e.due("nothing is undone by that", stateOf(x).equals(state), true);
        walk(x, 0, 1);
        e.due("one more", x.undo(), 0);
        tell(x, ROW);
        walk(x, 0, 1);
        tell(x, ROW);
        e.due("of a text ahead", x.undo(), -1);
    }
}
