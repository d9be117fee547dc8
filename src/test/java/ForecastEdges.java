import java.math.BigInteger;
import java.util.ArrayList;
import java.util.Arrays;
import java.util.List;

/** The sentences on when to go and on umpires: of the third part of the terms, promises 31 to 37. */
final class ForecastEdges extends Telling {
    private static final int HOURS = 24;
    private static final int[][] CASTS = {
        {},
        {50, 20, 100},
        {0, 20, 50},
        {0, 27, 37},
        {1, 3, 7, 9, 11, 13, 17, 19},
        {100, 0, 100, 0, 100},
        {99, 98, 97, 96, 95, 94, 93, 92, 91, 90, 89, 88, 87, 86, 85, 84, 83, 82, 81, 80, 79, 78, 77, 76},
        {0, 1, 2, 4, 8, 16, 32, 64, 100, 64, 32, 16, 8, 4, 2, 1, 0, 0, 5, 5, 5, 40, 40, 60},
        {30, 30, 30, 30, 30, 30, 30, 30, 30, 30, 30, 30, 30, 30, 30, 30, 30, 30, 30, 30, 30, 30, 30, 30},
    };
    private static final String[] FIELDS = {
        "field 1 1;", "field 3 3;tree 1 1;", "field 4 2;tree 3 0;ice 0 1;", "field 3 4;", "field 5 1;tree 2 0;",
        "field 4 4;tree 1 1;tree 2 2;tree 0 3;ice 3 3;", "field 2 2;tree 0 0;tree 1 1;"
    };

    private ForecastEdges() {
    }

    static void run(Edges e) {
        hours(e);
        waiting(e);
        umpires(e);
    }

    private static void hours(Edges e) {
        e.sentence("T3", "COVERED from an HOUR by k 1 .. 4 HOURS:", ForecastEdges::coveredByOneToFour);
        e.sentence("T3", "how likely snow falls in one of these (it, it and 1 and so on):", ForecastEdges::inOneOfThese);
        e.sentence("T3", "all less the product of 100 less odds, by 100 to the power of k.", ForecastEdges::allLessTheProduct);
        e.sentence("T3", "BEST HOUR of a row of HOURS: that with the greatest COVERED,", ForecastEdges::greatestCovered);
        e.sentence("T3", "COVERED, of several the first.", ForecastEdges::firstOfSeveral);
        e.sentence("31", "COVERED from an HOUR 0 .. 23", ForecastEdges::coveredFrom);
        e.sentence("31", "(HOURS behind 23: odds 0),", ForecastEdges::behindTheCast);
        e.sentence("31", "what 0: the number above in least terms, 1: the one below.", ForecastEdges::leastTerms);
        e.sentence("31", "NONE: no such ones.", ForecastEdges::noSuchCovered);
        e.sentence("32", "BEST HOUR of those from one to another", ForecastEdges::bestOfThose);
        e.sentence("32", "(0 .. 23, the first not above the second) by k;", ForecastEdges::rowsOfHours);
        e.sentence("32", "NONE: no such ones.", ForecastEdges::noSuchBest);
    }

    private static void waiting(Edges e) {
        e.sentence("T3", "WAITING of two for n 1 .. 6 HOURS from an HOUR on: each takes one of these;",
            ForecastEdges::eachTakesOne);
        e.sentence("T3", "one has COVERED by 2 (of 10000),", ForecastEdges::coveredByTwo);
        e.sentence("T3", "half of it (cut),", ForecastEdges::halfIsCut);
        e.sentence("T3", "if the other one goes at an HOUR ahead.", ForecastEdges::otherGoesAhead);
        e.sentence("T3", "A REST: neither would have more by another HOUR alone.", ForecastEdges::neitherWouldHaveMore);
        e.sentence("T3", "RESTS: by the first one's, then the second one's HOUR.", ForecastEdges::orderOfRests);
        e.sentence("33", "How many RESTS WAITING has", ForecastEdges::howManyRests);
        e.sentence("33", "(HOUR 0 .. 23, n 1 .. 6, none behind 23);", ForecastEdges::noneBehind23);
        e.sentence("33", "NONE: no such ones.", ForecastEdges::noSuchRests);
        e.sentence("34", "The k-th: 100 times the first one's HOUR and the second one's;", ForecastEdges::restsOneByOne);
        e.sentence("34", "-2: there are no so many;", ForecastEdges::noSoManyRests);
        e.sentence("34", "NONE likewise.", ForecastEdges::noSuchRest);
    }

    private static void umpires(Edges e) {
        e.sentence("T3", "SEEN from a CELL that is no TREE: it,", ForecastEdges::itself);
        e.sentence("T3", "and by 0 to 3 all CELLS up to a TREE (that not).", ForecastEdges::upToATree);
        e.sentence("T3", "UMPIRES for GROUND (bits): the fewest CELLS,", ForecastEdges::fewestCells);
        e.sentence("T3", "3 at most, from which all of it is SEEN", ForecastEdges::threeAtMost);
        e.sentence("T3", "(that are no TREES),", ForecastEdges::umpiresAreNoTrees);
        e.sentence("T3", "of several the first by numbers.", ForecastEdges::firstByNumbers);
        e.sentence("35", "SEEN from a CELL (bits);", ForecastEdges::bitsOfCells);
        e.sentence("35", "NONE: no such CELL,", ForecastEdges::noSuchSight);
        e.sentence("35", "a TREE.", ForecastEdges::noSightFromTrees);
        e.sentence("36", "UMPIRES: how many (0 .. 3);", ForecastEdges::noneToThree);
        e.sentence("36", "-2: not by 3;", ForecastEdges::notByThree);
        e.sentence("36", "NONE: GROUND that there isn't (bits behind the field, a TREE),", ForecastEdges::noSuchGround);
        e.sentence("36", "below 0.", ForecastEdges::groundBelow0);
        e.sentence("37", "The k-th of them;", ForecastEdges::umpiresOneByOne);
        e.sentence("37", "-2: there are no so many;", ForecastEdges::noSoManyUmpires);
        e.sentence("37", "NONE likewise.", ForecastEdges::noSuchUmpire);
    }

    // ---- how likely snow falls

    private static SnowScore cast(int... odds) {
        StringBuilder text = new StringBuilder(odds.length > 0 ? "cast" : "");
        for (int one : odds) {
            text.append(' ').append(one);
        }
        return told(text.append(odds.length > 0 ? ";" : "").toString());
    }

    private static int oddsOf(int[] cast, int hour) {
        return hour < cast.length && hour < HOURS ? cast[hour] : 0;
    }

    private static BigInteger wholeOf(int k) {
        return BigInteger.valueOf(100).pow(k);
    }

    /** The number above wholeOf(k). */
    private static BigInteger coveredOf(int[] cast, int hour, int k) {
        BigInteger dry = BigInteger.ONE;
        for (int i = 0; i < k; i++) {
            dry = dry.multiply(BigInteger.valueOf(100 - oddsOf(cast, hour + i)));
        }
        return wholeOf(k).subtract(dry);
    }

    private static void fractionIs(Edges e, String what, SnowScore x, int hour, int k, BigInteger above, BigInteger below) {
        BigInteger common = above.gcd(below);
        e.due(what + ", above", x.covered(hour, k, 0), above.divide(common).longValue());
        e.due(what + ", below", x.covered(hour, k, 1), below.divide(common).longValue());
    }

    private static void coveredByOneToFour(Edges e) {
        for (int[] cast : CASTS) {
            SnowScore x = cast(cast);
            for (int hour = 0; hour < HOURS; hour++) {
                for (int k = 1; k <= 4; k++) {
                    fractionIs(e, "HOUR " + hour + " by " + k, x, hour, k, coveredOf(cast, hour, k), wholeOf(k));
                }
            }
        }
        e.refused("by 0", x -> x.covered(0, 0, 0), -1);
        e.refused("by 5", x -> x.covered(0, 5, 0), -1);
    }

    private static void inOneOfThese(Edges e) {
        // Snow is sure in HOUR 7 alone: in one of k HOURS, if these go as far.
        SnowScore x = cast(0, 0, 0, 0, 0, 0, 0, 100);
        for (int hour = 0; hour < HOURS; hour++) {
            for (int k = 1; k <= 4; k++) {
                e.due("HOUR " + hour + " by " + k, x.covered(hour, k, 0), hour <= 7 && 7 < hour + k ? 1 : 0);
            }
        }
    }

    private static void allLessTheProduct(Edges e) {
        SnowScore x = cast(1, 3, 7, 9);
        e.due("1 of 100", x.covered(0, 1, 0), 1);
        e.due("1 of 100, below", x.covered(0, 1, 1), 100);
        e.due("by 2", x.covered(0, 2, 0), 10000 - 99 * 97);
        e.due("by 2, below", x.covered(0, 2, 1), 10000);
        e.due("by 4", x.covered(0, 4, 0), 100000000 - 99 * 97 * 93 * 91);
        e.due("by 4, below", x.covered(0, 4, 1), 100000000);
        e.due("the least of all by 4", cast(0, 0, 0, 1).covered(0, 4, 1), 100);
        // Not the sum of the odds: that of two by 60 would be more than all.
        x = cast(60, 60);
        e.due("60 and 60", x.covered(0, 2, 0) * 100 + x.covered(0, 2, 1), 21 * 100 + 25);
        e.due("all of four", cast(100, 100, 100, 100).covered(0, 4, 1), 1);
    }

    private static void greatestCovered(Edges e) {
        for (int[] cast : CASTS) {
            SnowScore x = cast(cast);
            for (int from = 0; from < HOURS; from += 3) {
                for (int to = from; to < HOURS; to += 2) {
                    for (int k = 1; k <= 4; k++) {
                        e.due("from " + from + " to " + to + " by " + k, x.best(from, to, k), bestOf(cast, from, to, k));
                    }
                }
            }
        }
    }

    private static int bestOf(int[] cast, int from, int to, int k) {
        int best = from;
        for (int hour = from; hour <= to; hour++) {
            if (coveredOf(cast, hour, k).compareTo(coveredOf(cast, best, k)) > 0) {
                best = hour;
            }
        }
        return best;
    }

    private static void firstOfSeveral(Edges e) {
        SnowScore x = cast(10, 40, 40, 0, 40);
        e.due("of three", x.best(0, 23, 1), 1);
        e.due("of two", x.best(2, 23, 1), 2);
        e.due("of all alike", x.best(5, 23, 1), 5);
        e.due("of none at all", cast().best(0, 23, 4), 0);
        // Sure by each of four HOURS: the first of them.
        e.due("of sure ones", cast(0, 0, 0, 0, 0, 0, 100, 99).best(0, 23, 4), 3);
        e.due("of sure ones behind", cast(0, 0, 0, 0, 0, 0, 100, 99).best(4, 23, 4), 4);
    }

    private static void coveredFrom(Edges e) {
        e.due("HOUR 0", World.made().covered(0, 1, 1), 2);
        e.due("HOUR 23", World.made().covered(23, 1, 1), 1);
        e.asks("covered", x -> x.covered(0, 4, 0));
        // By the cast alone: HOURS that went by change nothing.
        SnowScore x = cast(50, 20, 100);
        x.hours(2);
        x.fall(9);
        e.due("HOUR 0, behind it", x.covered(0, 1, 1), 2);
    }

    private static void behindTheCast(Edges e) {
        int[] odds = new int[HOURS];
        Arrays.fill(odds, 100);
        odds[23] = 25;
        odds[22] = 50;
        SnowScore x = cast(odds);
        for (int k = 1; k <= 4; k++) {
            fractionIs(e, "HOUR 23 by " + k, x, 23, k, BigInteger.ONE, BigInteger.valueOf(4));
        }
        for (int k = 2; k <= 4; k++) {
            fractionIs(e, "HOUR 22 by " + k, x, 22, k, BigInteger.valueOf(5), BigInteger.valueOf(8));
        }
        // Not those of HOUR 0 again, as if a day went round.
        e.due("HOUR 21 by 4", x.covered(21, 4, 0), 1);
        e.due("HOUR 23 by 4 isn't sure", x.covered(23, 4, 1), 4);
    }

    private static void leastTerms(Edges e) {
        int[][] dues = {{0, 0, 1}, {1, 1, 100}, {2, 1, 50}, {10, 1, 10}, {25, 1, 4}, {50, 1, 2}, {60, 3, 5}, {64, 16, 25},
            {75, 3, 4}, {99, 99, 100}, {100, 1, 1}};
        for (int[] due : dues) {
            SnowScore x = cast(due[0]);
            for (int k = 1; k <= 4; k++) {
                e.due(due[0] + " by " + k + ", above", x.covered(0, k, 0), due[1]);
                e.due(due[0] + " by " + k + ", below", x.covered(0, k, 1), due[2]);
            }
        }
    }

    private static void noSuchCovered(Edges e) {
        for (int what = 0; what < 2; what++) {
            int one = what;
            e.bounds("hour, what " + what, (x, hour) -> x.covered(hour, 1, one), -1, 0, 23);
            e.bounds("k, what " + what, (x, k) -> x.covered(0, k, one), -1, 1, 4);
        }
        e.bounds("what", (x, what) -> x.covered(0, 1, what), -1, 0, 1);
        e.due("HOUR 23 by 5", cast(100).covered(23, 5, 0), -1);
        e.due("HOUR 24 by 1, of a whole day", cast(CASTS[8]).covered(24, 1, 0), -1);
    }

    private static void bestOfThose(Edges e) {
        SnowScore x = cast(10, 20, 30, 20, 10);
        e.due("all", x.best(0, 23, 1), 2);
        e.due("up to one ahead of it", x.best(0, 1, 1), 1);
        e.due("up to it", x.best(0, 2, 1), 2);
        e.due("from it on", x.best(2, 23, 1), 2);
        e.due("from one behind it on", x.best(3, 23, 1), 3);
        e.due("by 2: 10000 less 80 by 70 twice", x.best(0, 23, 2), 1);
        e.asks("best", y -> y.best(0, 23, 3));
    }

    private static void rowsOfHours(Edges e) {
        for (int hour = 0; hour < HOURS; hour++) {
            e.due("one HOUR alone", cast(CASTS[7]).best(hour, hour, 2), hour);
        }
        e.due("0 to 23", World.made().best(0, 23, 1), 2);
        e.due("23 to 23", World.made().best(23, 23, 4), 23);
        e.refused("1 to 0", x -> x.best(1, 0, 1), -1);
        e.refused("23 to 22", x -> x.best(23, 22, 1), -1);
        e.refused("23 to 0", x -> x.best(23, 0, 1), -1);
    }

    private static void noSuchBest(Edges e) {
        e.bounds("from", (x, from) -> x.best(from, 23, 1), -1, 0, 23);
        e.bounds("to", (x, to) -> x.best(0, to, 1), -1, 0, 23);
        e.bounds("k", (x, k) -> x.best(0, 23, k), -1, 1, 4);
        e.refused("24 to 24", x -> x.best(24, 24, 1), -1);
        e.refused("-1 to -1", x -> x.best(-1, -1, 1), -1);
    }

    // ---- two who both wait

    /** What one has, of 10000, who goes at an HOUR while the other one goes at another. */
    private static int has(int[] cast, int own, int other) {
        int all = 10000 - (100 - oddsOf(cast, own)) * (100 - oddsOf(cast, own + 1));
        return other < own ? all / 2 : all;
    }

    private static List<Integer> restsOf(int[] cast, int hour, int n) {
        List<Integer> rests = new ArrayList<>();
        for (int first = hour; first < hour + n; first++) {
            for (int second = hour; second < hour + n; second++) {
                int most = 0;
                int mostOfSecond = 0;
                for (int other = hour; other < hour + n; other++) {
                    most = Math.max(most, has(cast, other, second));
                    mostOfSecond = Math.max(mostOfSecond, has(cast, other, first));
                }
                if (has(cast, first, second) == most && has(cast, second, first) == mostOfSecond) {
                    rests.add(100 * first + second);
                }
            }
        }
        return rests;
    }

    private static void eachTakesOne(Edges e) {
        for (int n = 1; n <= 6; n++) {
            // Where nothing falls, each pair of HOURS is a rest.
            SnowScore x = cast(0);
            e.due("pairs of " + n, x.rests(9, n), n * n);
            e.due("the first of " + n, x.rest(9, n, 0), 909);
            e.due("the last of " + n, x.rest(9, n, n * n - 1), 101 * (9 + n - 1));
        }
        e.refused("none", x -> x.rests(0, 0), -1);
        e.refused("seven", x -> x.rests(0, 7), -1);
    }

    private static void coveredByTwo(Edges e) {
        // By 1 HOUR 0 would be alike with HOUR 1; by 2 HOUR 0 is 8400 and HOUR 1 6000.
        SnowScore x = cast(60, 60);
        e.due("both at once", x.rests(0, 2), 1);
        e.due("at HOUR 0", x.rest(0, 2, 0), 0);
        // The HOUR behind all of them counts: 9600 in HOUR 1 by that of HOUR 2.
        x = cast(40, 0, 96);
        e.due("HOUR 2 isn't one of these", x.rest(0, 2, 0), 101);
        e.due("it is all there is", x.rests(0, 2), 1);
        // By 2: 5000, then 7500. Half of that is below 5000, so that both are rests.
        x = cast(0, 50, 50);
        e.due("5000, 7500", x.rests(0, 2), 2);
        e.due("both at HOUR 0", x.rest(0, 2, 0), 0);
        e.due("both at HOUR 1", x.rest(0, 2, 1), 101);
    }

    private static void halfIsCut(Edges e) {
        // By 2: 2700, then 5401. Half of that is 2700 when it is cut, so that it pays nothing to wait.
        SnowScore x = cast(0, 27, 37);
        e.due("one waits, for as much", x.rests(0, 2), restsOf(new int[] {0, 27, 37}, 0, 2).size());
        e.due("neither waits", x.rest(0, 2, 0), 0);
        e.due("both wait", x.rest(0, 2, 1), 101);
        // By 2: 2700, then 5402. Half of that is more.
        int[] more = {0, 27, 0};
        e.due("2700, 2700", cast(more).rests(0, 2), restsOf(more, 0, 2).size());
        int[] even = {0, 20, 50};
        e.due("2000, 6000: it pays to wait", cast(even).rests(0, 2), 1);
        e.due("both wait then", cast(even).rest(0, 2, 0), 101);
    }

    private static void otherGoesAhead(Edges e) {
        // By 2: 5000, then 7500. Behind the other one 3750, with the other one 7500.
        SnowScore x = cast(0, 50, 50);
        e.due("behind isn't worth it", x.rest(0, 2, 0), 0);
        e.due("the other one behind takes nothing", x.rests(0, 2), restsOf(new int[] {0, 50, 50}, 0, 2).size());
        // At the same HOUR none is ahead: both have all of it.
        x = cast(0, 0, 100);
        e.due("both at the first sure HOUR", x.rest(0, 3, 0), 101);
    }

    private static void neitherWouldHaveMore(Edges e) {
        for (int[] cast : CASTS) {
            SnowScore x = cast(cast);
            for (int hour = 0; hour < HOURS; hour++) {
                for (int n = 1; n <= 6 && hour + n <= HOURS; n++) {
                    e.due("from " + hour + " for " + n, x.rests(hour, n), restsOf(cast, hour, n).size());
                }
            }
        }
        // As much by another HOUR is no more: that is a rest, too.
        e.due("alike", cast(0, 0, 0).rests(0, 2), 4);
    }

    private static void orderOfRests(Edges e) {
        SnowScore x = cast(0);
        int[] order = {404, 405, 406, 504, 505, 506, 604, 605, 606};
        for (int k = 0; k < order.length; k++) {
            e.due("the " + k + "-th", x.rest(4, 3, k), order[k]);
        }
    }

    private static void howManyRests(Edges e) {
        e.due("of the World", World.made().rests(0, 3), 3);
        e.due("of one HOUR", World.made().rests(0, 1), 1);
        e.asks("rests", x -> x.rests(0, 3));
    }

    private static void noneBehind23(Edges e) {
        SnowScore x = cast(CASTS[7]);
        for (int n = 1; n <= 6; n++) {
            int last = HOURS - n;
            e.due("up to 23 by " + n, x.rests(last, n), restsOf(CASTS[7], last, n).size());
            e.due("behind 23 by " + n, x.rests(last + 1, n), -1);
            e.due("the first, up to 23 by " + n, x.rest(last, n, 0), restsOf(CASTS[7], last, n).get(0));
            e.due("the first, behind 23 by " + n, x.rest(last + 1, n, 0), -1);
        }
    }

    private static void noSuchRests(Edges e) {
        e.bounds("hour", (x, hour) -> x.rests(hour, 1), -1, 0, 23);
        e.bounds("n", (x, n) -> x.rests(0, n), -1, 1, 6);
        e.refused("19 for 6", x -> x.rests(19, 6), -1);
        e.refused("an HOUR that wraps around", x -> x.rests(Edges.FAR_RIGHT, 1), -1);
        e.refused("both far off", x -> x.rests(Edges.FAR_RIGHT, Edges.FAR_RIGHT), -1);
    }

    private static void restsOneByOne(Edges e) {
        for (int[] cast : CASTS) {
            SnowScore x = cast(cast);
            for (int hour = 0; hour + 6 <= HOURS; hour += 3) {
                List<Integer> rests = restsOf(cast, hour, 6);
                for (int k = 0; k < rests.size(); k++) {
                    e.due("from " + hour + ", the " + k + "-th", x.rest(hour, 6, k), rests.get(k));
                }
            }
        }
        e.asks("rest", x -> x.rest(0, 3, 1));
    }

    private static void noSoManyRests(Edges e) {
        SnowScore x = World.made();
        e.due("the third", x.rest(0, 3, 2), 202);
        e.due("a fourth", x.rest(0, 3, 3), -2);
        e.due("far off", x.rest(0, 3, Edges.FAR_RIGHT), -2);
        e.due("the 36th", cast(0).rest(18, 6, 35), 2323);
        e.due("a 37th", cast(0).rest(18, 6, 36), -2);
    }

    private static void noSuchRest(Edges e) {
        e.bounds("hour", (x, hour) -> x.rest(hour, 1, 0), -1, 0, 23);
        e.bounds("n", (x, n) -> x.rest(0, n, 0), -1, 1, 6);
        e.refusedFor("k", (x, k) -> x.rest(0, 3, k), -1, -1, -2, Edges.FAR_LEFT);
        e.refused("no such HOUR, and no so many", x -> x.rest(24, 1, 99), -1);
        e.refused("behind 23, and no so many", x -> x.rest(23, 2, 99), -1);
    }

    // ---- umpires

    private static boolean isTree(SnowScore x, int cell) {
        return x.cell(cell, 1) == 1;
    }

    /** What is seen from a cell, by walking up to a tree. */
    private static long seenOf(SnowScore x, int cell) {
        int wide = x.count(0);
        int high = x.count(1);
        long seen = 1L << cell;
        int[][] ways = {{0, -1}, {1, 0}, {0, 1}, {-1, 0}};
        for (int[] way : ways) {
            int column = cell % wide + way[0];
            int row = cell / wide + way[1];
            while (column >= 0 && column < wide && row >= 0 && row < high && !isTree(x, row * wide + column)) {
                seen |= 1L << (row * wide + column);
                column += way[0];
                row += way[1];
            }
        }
        return seen;
    }

    private static void itself(Edges e) {
        e.due("alone", told("field 1 1;").sees(0), 1);
        SnowScore x = told("field 3 3;tree 1 0;tree 0 1;tree 2 1;tree 1 2;");
        e.due("shut in by trees", x.sees(4), 1L << 4);
        e.due("in a corner by trees", x.sees(8), 1L << 8);
    }

    private static void upToATree(Edges e) {
        String[] more = {"field 8 6;", "field 8 6;tree 3 0;tree 0 3;tree 4 4;tree 7 2;ice 2 2;", "field 6 1;tree 3 0;ice 1 0;",
            "field 1 6;tree 0 2;", "seed 1;"};
        for (String[] fields : new String[][] {FIELDS, more}) {
            for (String field : fields) {
                SnowScore x = told(field);
                for (int cell = 0; cell < x.count(0) * x.count(1); cell++) {
                    e.due(field + " from " + cell, x.sees(cell), isTree(x, cell) ? -1 : seenOf(x, cell));
                }
            }
        }
        // Nothing behind a tree, and ice hides nothing.
        e.due("a row", told("field 6 1;tree 3 0;ice 1 0;").sees(0), 7);
        e.due("behind the tree", told("field 6 1;tree 3 0;ice 1 0;").sees(5), 3L << 4);
        e.due("a row's end sees no next row", told("field 3 2;").sees(2), 7L | 1L << 5);
        // Marks, snow and farms hide nothing.
        SnowScore x = World.made();
        long seen = x.sees(1);
        x.fall(99);
        e.due("in snow", x.sees(1), seen);
    }

    /** The fewest umpires, of several the first, as their numbers in a row; null: not by 3. */
    private static List<Integer> umpiresOf(SnowScore x, long ground) {
        int size = x.count(0) * x.count(1);
        for (int many = 0; many <= 3; many++) {
            List<Integer> found = chosen(x, ground, many, 0, size);
            if (found != null) {
                return found;
            }
        }
        return null;
    }

    private static List<Integer> chosen(SnowScore x, long ground, int many, int from, int size) {
        if (many == 0) {
            return ground == 0 ? new ArrayList<>() : null;
        }
        for (int cell = from; cell < size; cell++) {
            if (!isTree(x, cell)) {
                List<Integer> rest = chosen(x, ground & ~seenOf(x, cell), many - 1, cell + 1, size);
                if (rest != null) {
                    rest.add(0, cell);
                    return rest;
                }
            }
        }
        return null;
    }

    private static long treesOf(SnowScore x) {
        long trees = 0;
        for (int cell = 0; cell < x.count(0) * x.count(1); cell++) {
            trees |= isTree(x, cell) ? 1L << cell : 0;
        }
        return trees;
    }

    private static void fewestCells(Edges e) {
        for (String field : FIELDS) {
            SnowScore x = told(field);
            int size = x.count(0) * x.count(1);
            long step = size > 9 ? 37 : 1;
            for (long ground = 0; ground < 1L << size; ground += step) {
                if ((ground & treesOf(x)) == 0) {
                    List<Integer> umpires = umpiresOf(x, ground);
                    e.due(field + " for " + ground, x.umpires(ground), umpires == null ? -2 : umpires.size());
                }
            }
        }
    }

    private static void threeAtMost(Edges e) {
        SnowScore x = told("field 8 6;");
        long slant = 0;
        // Each cell of a slant needs one to see it; one sees two of them from their corner.
        int[] dues = {1, 1, 2, 2, 3, 3};
        for (int i = 0; i < 6; i++) {
            slant |= 1L << (9 * i);
            e.due("a slant of " + (i + 1), x.umpires(slant), dues[i]);
        }
        e.due("all of it", x.umpires((1L << 48) - 1), -2);
        SnowScore rows = told("field 8 3;");
        e.due("three rows", rows.umpires((1L << 24) - 1), 3);
        e.due("four rows", told("field 8 4;").umpires((1L << 32) - 1), -2);
        e.due("three columns", told("field 3 6;").umpires((1L << 18) - 1), 3);
        e.due("four columns", told("field 4 6;").umpires((1L << 24) - 1), -2);
    }

    private static void umpiresAreNoTrees(Edges e) {
        // From the tree in the middle all would be seen.
        SnowScore x = told("field 3 1;tree 1 0;");
        e.due("both sides of a tree", x.umpires(5), 2);
        e.due("the first", x.umpire(5, 0), 0);
        e.due("the second", x.umpire(5, 1), 2);
        x = told("field 4 1;tree 0 0;tree 2 0;");
        e.due("the first number is a tree", x.umpire(2, 0), 1);
        e.due("behind the other one", x.umpire(8, 0), 3);
        // Ice is a place as good as snow.
        x = told("field 3 3;ice 1 1;");
        e.due("from ice", x.umpires(0xba), 1);
        e.due("its number", x.umpire(0xba, 0), 4);
    }

    private static void firstByNumbers(Edges e) {
        for (String field : FIELDS) {
            SnowScore x = told(field);
            int size = x.count(0) * x.count(1);
            long step = size > 9 ? 53 : 3;
            for (long ground = 0; ground < 1L << size; ground += step) {
                List<Integer> umpires = (ground & treesOf(x)) == 0 ? umpiresOf(x, ground) : null;
                for (int k = 0; umpires != null && k < umpires.size(); k++) {
                    e.due(field + " for " + ground + ", " + k, x.umpire(ground, k), umpires.get(k));
                }
            }
        }
    }

    private static void bitsOfCells(Edges e) {
        SnowScore x = World.made();
        e.due("from 0", x.sees(0), 0x17);
        e.due("from 7: a tree above", x.sees(7), 0xf0);
        e.due("from ice", x.sees(4), 0xf1);
        x = told("field 8 6;");
        e.due("cell 31", x.sees(31) >>> 31 & 1, 1);
        e.due("of 47, none below 0", x.sees(47), 0xffL << 40 | 1L << 39 | 1L << 31 | 1L << 23 | 1L << 15 | 1L << 7);
        e.due("of 32", x.sees(32), 0xffL << 32 | 1L | 1L << 8 | 1L << 16 | 1L << 24 | 1L << 40);
        e.asks("sees", y -> y.sees(0));
    }

    private static void noSuchSight(Edges e) {
        e.bounds("sees", SnowScore::sees, -1, 0, World.CELLS - 1);
        e.due("cell 30 of a new object", new SnowScore().sees(30), -1);
        e.due("cell 48 of the widest", told("field 8 6;").sees(48), -1);
        e.due("cell 64", told("field 8 6;").sees(64), -1);
    }

    private static void noSightFromTrees(Edges e) {
        e.refused("from a tree", x -> x.sees(3), -1);
        e.due("a field of one tree", told("field 1 1;tree 0 0;").sees(0), -1);
        SnowScore x = told("field 2 1;tree 0 0;");
        tell(x, "field 2 1;");
        e.due("a tree of a text ahead", x.sees(0), 3);
    }

    private static void noneToThree(Edges e) {
        SnowScore x = told("field 8 6;");
        e.due("none", x.umpires(0), 0);
        e.due("one", x.umpires(1L << 47), 1);
        e.due("two", x.umpires(1L | 1L << 9 | 1L << 18), 2);
        e.due("three", x.umpires(1L | 1L << 9 | 1L << 18 | 1L << 27 | 1L << 36), 3);
        e.asks("umpires", y -> y.umpires(0xf7));
    }

    private static void notByThree(Edges e) {
        SnowScore x = told("field 8 6;");
        e.due("all", x.umpires((1L << 48) - 1), -2);
        e.due("all of a new object", new SnowScore().umpires((1L << 30) - 1), -2);
        x = told("field 7 1;tree 1 0;tree 3 0;tree 5 0;");
        e.due("three of four shut in", x.umpires(1L | 1L << 2 | 1L << 4), 3);
        e.due("four shut in", x.umpires(1L | 1L << 2 | 1L << 4 | 1L << 6), -2);
    }

    private static void noSuchGround(Edges e) {
        long[] behind = {1L << 8, 1L << 9, 1L << 31, 1L << 32, 1L << 47, 1L << 48, 1L << 62, 1L << 8 | 1, Long.MAX_VALUE};
        for (long ground : behind) {
            e.refused("behind the field " + ground, x -> x.umpires(ground), -1);
        }
        e.refused("a tree", x -> x.umpires(1L << 3), -1);
        e.refused("a tree and more", x -> x.umpires(0xff), -1);
        e.due("all but the tree", World.made().umpires(0xf7), 2);
        SnowScore x = told("field 8 6;");
        e.due("the last bit", x.umpires(1L << 47), 1);
        for (int bit = 48; bit < 63; bit++) {
            e.due("bit " + bit, x.umpires(1L << bit), -1);
            e.due("bit " + bit + " and the first", x.umpires(1L << bit | 1), -1);
        }
        x = told("field 8 4;tree 0 0;");
        e.due("32 cells, bit 31", x.umpires(1L << 31), 1);
        e.due("32 cells, bit 32, not the tree in bit 0", x.umpires(1L << 32), -1);
        e.due("a field of one tree", told("field 1 1;tree 0 0;").umpires(1), -1);
        e.due("none of it", told("field 1 1;tree 0 0;").umpires(0), 0);
    }

    private static void groundBelow0(Edges e) {
        for (long ground : new long[] {-1, -2, Long.MIN_VALUE, Long.MIN_VALUE | 1, -256}) {
            e.refused("ground " + ground, x -> x.umpires(ground), -1);
        }
        e.due("of the widest", told("field 8 6;").umpires(Long.MIN_VALUE), -1);
    }

    private static void umpiresOneByOne(Edges e) {
        SnowScore x = told("field 8 6;");
        long slant = 1L | 1L << 9 | 1L << 18 | 1L << 27 | 1L << 36;
        e.due("the first", x.umpire(slant, 0), 0);
        e.due("the second", x.umpire(slant, 1), 10);
        e.due("the third", x.umpire(slant, 2), 28);
        e.due("the last cell's", x.umpire(1L << 47, 0), 7);
        e.asks("umpire", y -> y.umpire(0xf7, 1));
    }

    private static void noSoManyUmpires(Edges e) {
        SnowScore x = told("field 8 6;");
        e.due("of none", x.umpire(0, 0), -2);
        e.due("a second of one", x.umpire(1, 1), -2);
        e.due("a third of two", x.umpire(1L | 1L << 9 | 1L << 18, 2), -2);
        long slant = 1L | 1L << 9 | 1L << 18 | 1L << 27 | 1L << 36;
        e.due("a fourth of three", x.umpire(slant, 3), -2);
        e.due("far off", x.umpire(slant, Edges.FAR_RIGHT), -2);
        e.due("where three aren't enough", x.umpire((1L << 48) - 1, 0), -2);
        e.due("where three aren't enough, the third", x.umpire((1L << 48) - 1, 2), -2);
    }

    private static void noSuchUmpire(Edges e) {
        e.refusedFor("k", (x, k) -> x.umpire(0xf7, k), -1, -1, -2, Edges.FAR_LEFT);
        e.refused("behind the field", x -> x.umpire(1L << 8, 0), -1);
        e.refused("a tree", x -> x.umpire(1L << 3, 0), -1);
        e.refused("below 0", x -> x.umpire(-1, 0), -1);
        e.refused("below 0, and no so many", x -> x.umpire(Long.MIN_VALUE, 9), -1);
        e.due("k below 0 of none", World.made().umpire(0, -1), -1);
    }
}
