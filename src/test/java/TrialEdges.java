/** The sentences on what lies below and what is tried: of the third part of the terms, promises 38 to 42. */
final class TrialEdges extends Telling {
    /** One row; f has the left end, g the rest; both walkers step by one. */
    private static final String ROW = "field 8 1;farm f 0 0 0 0;farm g 1 0 7 0;walker w f 20 1 0 0;walker v g 10 1 7 0;";

    private TrialEdges() {
    }

    static void run(Edges e) {
        below(e);
        chances(e);
        trials(e);
    }

    private static void below(Edges e) {
        e.sentence("T3", "BELOW by n: how many MARKS would be READ behind a THAW of n.", TrialEdges::readBehindThaw);
        e.sentence("T3", "LAYERS: unlike COVERS of MARKS that aren't GONE,", TrialEdges::unlikeCovers);
        e.sentence("T3", "the least first.", TrialEdges::leastFirst);
        e.sentence("38", "BELOW (n 0 .. 999);", TrialEdges::belowOfAll);
        e.sentence("38", "NONE: no such number.", TrialEdges::noSuchBelow);
        e.sentence("39", "How many LAYERS there are.", TrialEdges::howManyLayers);
        e.sentence("40", "The COVER of the k-th;", TrialEdges::layersOneByOne);
        e.sentence("40", "-2: there are no so many;", TrialEdges::noSoManyLayers);
        e.sentence("40", "NONE: k is below 0.", TrialEdges::layerBelow0);
    }

    private static void chances(Edges e) {
        e.sentence("41", "In how many of ten draws", TrialEdges::tenDraws);
        e.sentence("41", "(numbers from a seed 0 .. 2147483647 on;", TrialEdges::seedsOfDraws);
        e.sentence("41", "n 1 .. 9 NIGHTS each,", TrialEdges::nightsEach);
        e.sentence("41", "from now on)", TrialEdges::fromNowOn);
        e.sentence("41", "a FARM's SCORE is at least a bound (0 .. 9999) behind them;", TrialEdges::atLeastBound);
        e.sentence("41", "NONE: no such ones.", TrialEdges::noSuchChance);
    }

    private static void trials(Edges e) {
        e.sentence("T3", "TRIED: SCORE of a FARM, if 0 nothing had COVER,", TrialEdges::nothingHadCover);
        e.sentence("T3", "1 MARKS that LOOK as WALKER i weren't there,", TrialEdges::marksWereNotThere);
        e.sentence("T3", "2 none were BLURRED,", TrialEdges::noneWereBlurred);
        e.sentence("T3", "3 each LOOKED as whose it is,", TrialEdges::eachLookedAsItsOwn);
        e.sentence("T3", "4 there were a THAW of i (0 .. 99).", TrialEdges::thereWereAThaw);
        e.sentence("42", "TRIED;", TrialEdges::triedOfWorld);
        e.sentence("42", "NONE: no such ones", TrialEdges::noSuchTrial);
        e.sentence("42", "(i 0 of 0, 2, 3).", TrialEdges::zeroOfThree);
    }

    // ---- what lies below

    /** Marks of w at 1, 2, 3, of v at 6 and again of w at 4, under covers of 7, 7, 7, 4 and 0. */
    private static SnowScore layered() {
        SnowScore x = told(ROW);
        walk(x, 0, 1, 1, 1);
        x.fall(3);
        walk(x, 1, 3);
        x.fall(4);
        walk(x, 0, 1);
        return x;
    }

    private static void readBehindThaw(Edges e) {
        // v's mark is gone by 4 and 10, w's covered ones by 7 and 20, w's bare one by 20.
        int[][] dues = {{0, 1}, {1, 1}, {3, 1}, {4, 2}, {6, 2}, {7, 5}, {13, 5}, {14, 4}, {19, 4}, {20, 3}, {26, 3}, {27, 0},
            {28, 0}, {999, 0}};
        for (int[] due : dues) {
            e.due("by " + due[0], layered().below(due[0]), due[1]);
        }
        for (int n = 1; n <= 99; n++) {
            SnowScore x = layered();
            int below = x.below(n);
            x.thaw(n);
            e.due("as behind a thaw of " + n, below, x.count(9));
        }
        // One in each cell is read: of two that come to light the latest.
        SnowScore x = told(ROW);
        walk(x, 0, 1, 1, 3);
        x.fall(2);
        e.due("two cells, three marks", x.below(2), 2);
        x = told(ROW);
        walk(x, 0, 1);
        x.fox(1, 0, 1);
        e.due("a blurred one is read", x.below(0), 1);
        x.thaw(20);
        e.due("a gone one isn't", x.below(0), 0);
    }

    private static void belowOfAll(Edges e) {
        SnowScore x = World.made();
        e.due("now", x.below(0), 3);
        e.due("by 2", x.below(2), 4);
        e.due("no thaw went by", x.count(9) * 100 + x.count(6), 302);
        // Deeper than any thaw: eleven falls of 90, and one of 9, need 999.
        x = told(ROW);
        walk(x, 0, 1);
        for (int i = 0; i < 11; i++) {
            x.fall(90);
        }
        x.fall(9);
        e.due("COVER", x.mark(0, 5), 999);
        e.due("by 998", x.below(998), 0);
        e.due("by 999", x.below(999), 1);
        x.fall(1);
        e.due("by 999 of 1000", x.below(999), 0);
        e.due("a new object", new SnowScore().below(999), 0);
        e.asks("below", y -> y.below(99));
    }

    private static void noSuchBelow(Edges e) {
        e.bounds("below", (x, n) -> x.below(n), -1, 0, 999);
    }

    private static void unlikeCovers(Edges e) {
        SnowScore x = layered();
        e.due("three", x.layers(), 3);
        x.fall(5);
        e.due("deeper, but as many", x.layers(), 3);
        e.due("the first, deeper", x.layer(0), 5);
        x = layered();
        x.thaw(4);
        e.due("two that become alike", x.layers(), 2);
        e.due("bare", x.layer(0), 0);
        e.due("above it", x.layer(1), 3);
        x.thaw(10);
        e.due("all bare, v's gone", x.layers(), 1);
        x.thaw(99);
        e.due("all gone", x.layers(), 0);
        e.due("of gone ones none", x.layer(0), -2);
        x.fall(3);
        e.due("nor behind a fall on them", x.layers(), 0);
        walk(x, 0, 1);
        e.due("a new one", x.layers(), 1);
        e.due("its own", x.layer(0), 0);
        // As many as there can be marks of.
        x = told("field 2 1;farm f 0 0 1 0;walker w f 60 1 0 0;");
        for (int i = 0; i < 90; i++) {
            walk(x, 0, i % 2 == 0 ? 1 : 3);
            x.fall(1);
        }
        e.due("90", x.layers(), 90);
        for (int k = 0; k < 90; k++) {
            e.due("the " + k + "-th of 90", x.layer(k), k + 1);
        }
        e.due("no 91st", x.layer(90), -2);
    }

    private static void leastFirst(Edges e) {
        SnowScore x = layered();
        int[] covers = {0, 4, 7};
        for (int k = 0; k < 3; k++) {
            e.due("the " + k + "-th", x.layer(k), covers[k]);
        }
        // Not by the numbers of the marks: the bare one is the last of them.
        e.due("the first mark's", x.mark(0, 5), 7);
        e.due("the last mark's", x.mark(4, 5), 0);
    }

    private static void howManyLayers(Edges e) {
        e.due("of the World", World.made().layers(), 2);
        e.due("a new object", new SnowScore().layers(), 0);
        SnowScore x = told(ROW);
        x.fall(9);
        e.due("snow without marks", x.layers(), 0);
        walk(x, 0, 1);
        e.due("one that is bare", x.layers(), 1);
        e.asks("layers", y -> y.layers());
    }

    private static void layersOneByOne(Edges e) {
        SnowScore x = World.made();
        e.due("the first", x.layer(0), 0);
        e.due("the second", x.layer(1), 2);
        x.fall(99);
        e.due("the first, deeper", x.layer(0), 99);
        e.due("the second, deeper", x.layer(1), 101);
        e.asks("layer", y -> y.layer(1));
    }

    private static void noSoManyLayers(Edges e) {
        e.due("a third", World.made().layer(2), -2);
        e.due("far off", World.made().layer(Edges.FAR_RIGHT), -2);
        e.due("of none", new SnowScore().layer(0), -2);
    }

    private static void layerBelow0(Edges e) {
        e.refusedFor("k", SnowScore::layer, -1, -1, -2, Edges.FAR_LEFT);
        e.due("of none", new SnowScore().layer(-1), -1);
    }

    // ---- chances

    /** How an object comes to where the draws begin. */
    private interface Way {
        SnowScore made();
    }

    /** Ten draws, each played on an object of its own by falls, thaws and hours. */
    private static int drawn(Way way, long seed, int n, int farm, int bound) {
        Numbers numbers = new Numbers(seed);
        int reached = 0;
        for (int draw = 0; draw < 10; draw++) {
            SnowScore x = way.made();
            for (int i = 0; i < n; i++) {
                int night = numbers.nextNight();
                if (night > 0) {
                    x.fall(night);
                } else if (night < 0) {
                    x.thaw(-night);
                }
                x.hours(1);
            }
            reached += x.score(farm, 0) >= bound ? 1 : 0;
        }
        return reached;
    }

    private static SnowScore walked() {
        SnowScore x = told(ROW.replace("walker w f 20", "walker w f 9") + "law fade 1+age;law score 2+age+snow;seed 77;");
        walk(x, 0, 1, 1);
        x.fall(2);
        walk(x, 0, 1);
        return x;
    }

    private static void chanceIs(Edges e, Way way, long seed, int n, int farm, int bound) {
        e.due("seed " + seed + ", " + n + " nights, at least " + bound, way.made().chance((int) seed, n, farm, bound),
            drawn(way, seed, n, farm, bound));
    }

    private static void tenDraws(Edges e) {
        e.due("ten", walked().chance(0, 1, 0, 0), 10);
        e.due("none", walked().chance(0, 1, 0, 9999), 0);
        for (int seed = 0; seed < 40; seed++) {
            chanceIs(e, TrialEdges::walked, seed, 1, 1, 4);
        }
        // One row of numbers for all ten: begun anew, they would be all alike.
        int between = 0;
        for (int seed = 0; seed < 20; seed++) {
            int reached = walked().chance(seed, 1, 1, 4);
            between += reached > 0 && reached < 10 ? 1 : 0;
        }
        e.due("draws that aren't all alike", between > 10, true);
        e.asks("chance", x -> x.chance(5, 9, 1, 1));
    }

    private static void seedsOfDraws(Edges e) {
        long[] seeds = {0, 1, 65536, 99999, 100000, 1234567890, 2147483646, 2147483647};
        for (long seed : seeds) {
            for (int bound = 0; bound <= 12; bound += 3) {
                chanceIs(e, TrialEdges::walked, seed, 2, 1, bound);
            }
        }
        // By that seed alone, not by the numbers of the object's own nights; and it leaves these.
        SnowScore x = walked();
        int first = x.chance(9, 3, 1, 5);
        e.due("the same again", x.chance(9, 3, 1, 5), first);
        x.chance(123456, 9, 1, 5);
        e.due("the next night", x.night(), Numbers.night(77));
        e.refused("a seed below 0", y -> y.chance(-1, 1, 0, 0), -1);
    }

    private static void nightsEach(Edges e) {
        for (int n = 1; n <= 9; n++) {
            for (int seed = 3; seed < 9; seed++) {
                chanceIs(e, TrialEdges::walked, seed, n, 1, 1);
                chanceIs(e, TrialEdges::walked, seed, n, 1, 7);
            }
        }
        e.refused("no night", x -> x.chance(0, 0, 0, 0), -1);
        e.refused("ten nights", x -> x.chance(0, 10, 0, 0), -1);
    }

    private static SnowScore atHour(int hour) {
        SnowScore x = told(ROW);
        for (int left = hour; left > 0; left -= 99) {
            x.hours(Math.min(99, left));
        }
        walk(x, 0, 1);
        return x;
    }

    private static void fromNowOn(Edges e) {
        // Behind hours, falls and thaws; marks that are blurred, covered or in another one's boots.
        Way later = () -> {
            SnowScore x = walked();
            x.hours(1);
            x.boots(0, 1);
            walk(x, 0, 1);
            x.fall(3);
            x.fox(1, 1, 8);
            x.boots(0, 0);
            walk(x, 0, 1);
            x.thaw(1);
            return x;
        };
        for (int seed = 0; seed < 20; seed++) {
            chanceIs(e, later, seed, 3, 1, 5);
        }
        // A night that would be behind HOUR 9999 is none, so there are no such draws.
        for (int n = 1; n <= 9; n++) {
            int nights = n;
            e.due(n + " nights to HOUR 9999", atHour(9999 - n).chance(4, n, 1, 1), drawn(() -> atHour(9999 - nights), 4, n, 1, 1));
            e.due(n + " nights, the last behind it", atHour(10000 - n).chance(4, n, 1, 1), -1);
        }
        e.due("at HOUR 9999", atHour(9999).chance(0, 1, 0, 0), -1);
    }

    private static void atLeastBound(Edges e) {
        SnowScore x = told(ROW + "law score 99;");
        walk(x, 0, 1);
        int reached = x.chance(0, 1, 1, 1);
        e.due("some, not all", reached > 0 && reached < 10, true);
        e.due("at least 99", x.chance(0, 1, 1, 99), reached);
        e.due("at least 100", x.chance(0, 1, 1, 100), 0);
        e.due("at least 0", x.chance(0, 1, 1, 0), 10);
        e.due("at least 9999", x.chance(0, 1, 1, 9999), 0);
        // SCORE alone: a DEBT doesn't count.
        x.winter();
        e.due("behind a winter", x.score(1, 1) * 100 + x.chance(0, 1, 1, 1), 9900);
        e.refused("a bound below 0", y -> y.chance(0, 1, 0, -1), -1);
        e.refused("a bound of 10000", y -> y.chance(0, 1, 0, 10000), -1);
    }

    private static void noSuchChance(Edges e) {
        e.refusedFor("seed", (x, seed) -> x.chance(seed, 1, 0, 0), -1, -1, -2, Edges.FAR_LEFT);
        e.due("seed 0", World.made().chance(0, 1, 0, 0), 10);
        e.due("the last seed", World.made().chance(Edges.FAR_RIGHT, 1, 0, 0), 10);
        e.bounds("n", (x, n) -> x.chance(0, n, 0, 0), -1, 1, 9);
        e.bounds("farm", (x, farm) -> x.chance(0, 1, farm, 0), -1, 0, World.FARMS - 1);
        e.bounds("bound", (x, bound) -> x.chance(0, 1, 0, bound), -1, 0, 9999);
        e.due("no farms", new SnowScore().chance(0, 1, 0, 0), -1);
    }

    // ---- tried otherwise

    private static void nothingHadCover(Edges e) {
        SnowScore x = told(ROW + "law score 1+snow;");
        walk(x, 0, 1, 1);
        x.fall(5);
        e.due("covered", x.score(1, 0), 0);
        e.due("SNOW stays", x.tried(1, 0, 0), 12);
        e.due("no mark loses by it", x.mark(0, 5) * 100 + x.mark(0, 4), 520);
        walk(x, 1, 3, 3, 3, 3, 3);
        e.due("v's own lies upon one", x.tried(1, 0, 0), 6);
        x = told(ROW);
        walk(x, 0, 1);
        x.thaw(20);
        x.fall(1);
        e.due("gone ones stay gone", x.tried(1, 0, 0), 0);
        x = told(ROW);
        walk(x, 0, 1);
        x.fox(1, 0, 1);
        x.fall(1);
        e.due("blurred ones stay blurred", x.tried(1, 0, 0), 0);
        // What is bare now may be below another one then.
        x = told(ROW);
        walk(x, 1, 3, 3);
        x.undo();
        walk(x, 0, 1, 1, 1, 1, 1);
        walk(x, 0, 1);
        e.due("six of w's", x.score(1, 0), 6);
        e.due("nothing has COVER: as it is", x.tried(1, 0, 0), 6);
    }

    private static void marksWereNotThere(Edges e) {
        SnowScore x = told(ROW + "walker u f 5 1 0 0;");
        walk(x, 0, 1, 1);
        walk(x, 2, 1);
        x.boots(1, 0);
        walk(x, 1, 3);
        e.due("w's at 2, u's at 1, v's as w's at 6", x.score(1, 0), 3);
        e.due("without w's looks: u's", x.tried(1, 1, 0), 1);
        e.due("without u's: w's below it", x.tried(1, 1, 2), 3);
        e.due("without v's looks: it looks as w's", x.tried(1, 1, 1), 3);
        x.fox(1, 0, 1);
        e.due("u's is blurred: w's below it", x.tried(1, 1, 2), 3);
        e.due("all are there still", x.count(8), 4);
        x = told(ROW);
        walk(x, 0, 1);
        e.due("one alone", x.score(1, 0), 1);
        e.due("without it", x.tried(1, 1, 0), 0);
        walk(x, 0, 1, 1);
        e.due("three", x.score(1, 0), 3);
        e.due("without them", x.tried(1, 1, 0), 0);
        // One of f's own upon v's: without it v's is read.
        x = told("field 8 1;farm f 0 0 7 0;farm g 0 0 0 0;walker w f 20 1 1 0;walker v g 10 1 7 0;");
        walk(x, 1, 3);
        walk(x, 0, 1, 1, 1, 1, 1);
        e.due("its own above", x.score(0, 0), 0);
        e.due("without its own", x.tried(0, 1, 0), 1);
    }

    private static void noneWereBlurred(Edges e) {
        SnowScore x = told(ROW);
        walk(x, 0, 1, 1, 1);
        x.fox(1, 1, 2);
        e.due("two of three blurred", x.score(1, 0), 1);
        e.due("none", x.tried(1, 2, 0), 3);
        e.due("two are blurred still", x.score(1, 0), 1);
        x.fall(1);
        e.due("covered ones stay covered", x.tried(1, 2, 0), 0);
        x.thaw(21);
        e.due("gone ones stay gone", x.tried(1, 2, 0), 0);
    }

    private static void eachLookedAsItsOwn(Edges e) {
        SnowScore x = told(ROW + "law score weight;");
        x.boots(1, 0);
        walk(x, 1, 3);
        e.due("as w's", x.score(1, 0), 20);
        e.due("as v's own", x.tried(1, 3, 0), 0);
        x.boots(1, 1);
        x.boots(0, 1);
        walk(x, 0, 1);
        e.due("w's as v's, too", x.score(1, 0), 20);
        e.due("w's as w's alone", x.tried(1, 3, 0), 20);
        x.fox(1, 0, 1);
        e.due("blurred all the same", x.tried(1, 3, 0), 0);
        e.due("they look as they did", x.mark(0, 0) * 10 + x.mark(1, 0), 1);
        // The law is by whose it looks then.
        x = told(ROW + "walker u f 5 1 0 0;law score weight+far;");
        x.boots(0, 2);
        walk(x, 0, 1);
        e.due("by u's weight", x.score(1, 0), 6);
        e.due("by w's weight", x.tried(1, 3, 0), 21);
    }

    private static void thereWereAThaw(Edges e) {
        SnowScore x = told(ROW + "law score 1+snow*10+deep;");
        walk(x, 0, 1);
        x.fall(4);
        int[][] dues = {{0, 0}, {1, 0}, {3, 0}, {4, 21}, {5, 20}, {23, 2}, {24, 0}, {99, 0}};
        for (int[] due : dues) {
            e.due("a thaw of " + due[0], x.tried(1, 4, due[0]), due[1]);
        }
        e.due("no thaw went by", x.count(6) * 1000 + x.mark(0, 5) * 100 + x.mark(0, 4), 4420);
        // SNOW is less by it: 6 less 2 by 10, 1 and 20.
        x = told(ROW + "law score 1+snow*10+deep;");
        x.fall(4);
        walk(x, 0, 1);
        x.fall(2);
        e.due("by the SNOW behind it", x.tried(1, 4, 2), 40 + 21);
        for (int n = 1; n <= 99; n++) {
            SnowScore y = World.made();
            int f = y.tried(0, 4, n);
            int g = y.tried(1, 4, n);
            y.thaw(n);
            e.due("f as behind a thaw of " + n, f, y.score(0, 0));
            e.due("g as behind a thaw of " + n, g, y.score(1, 0));
        }
        e.due("by 0: as it is", World.made().tried(1, 4, 0), World.made().score(1, 0));
    }

    private static void triedOfWorld(Edges e) {
        int[] ofF = {1, 0, 1, 1, 1};
        int[] ofG = {4, 1, 2, 1, 4};
        for (int what = 0; what < 5; what++) {
            int i = what == 1 ? 1 : what == 4 ? 2 : 0;
            e.due("f, what " + what, World.made().tried(0, what, i), ofF[what]);
            e.due("g, what " + what, World.made().tried(1, what, i), ofG[what]);
            int one = what;
            e.asks("tried, what " + what, x -> x.tried(1, one, i));
        }
        e.due("g without w's", World.made().tried(1, 1, 0), 0);
    }

    private static void noSuchTrial(Edges e) {
        for (int what = 0; what < 5; what++) {
            int one = what;
            e.bounds("farm, what " + what, (x, farm) -> x.tried(farm, one, 0), -1, 0, World.FARMS - 1);
        }
        e.bounds("what", (x, what) -> x.tried(0, what, 0), -1, 0, 4);
        e.bounds("the walker of 1", (x, i) -> x.tried(0, 1, i), -1, 0, World.WALKERS - 1);
        e.bounds("the thaw of 4", (x, i) -> x.tried(0, 4, i), -1, 0, 99);
        e.due("no farms", new SnowScore().tried(0, 0, 0), -1);
        e.due("no walkers", told("farm f 0 0 0 0;").tried(0, 1, 0), -1);
    }

    private static void zeroOfThree(Edges e) {
        for (int what : new int[] {0, 2, 3}) {
            e.bounds("i of " + what, (x, i) -> x.tried(0, what, i), -1, 0, 0);
        }
        e.due("1 of 1", World.made().tried(0, 1, 1), 0);
        e.due("1 of 4", World.made().tried(0, 4, 1), 1);
    }
}
