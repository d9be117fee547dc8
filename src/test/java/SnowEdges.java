/** The sentences on what happens in the snow: the second part of the terms, promises 6 to 20. */
final class SnowEdges extends Telling {
    /** One row; f has the left end, g the rest; both walkers step by one. */
    private static final String ROW = "field 8 1;farm f 0 0 0 0;farm g 1 0 7 0;walker w f 20 1 0 0;walker v g 10 1 7 0;";
    /** 2 to the 32: what an int would take for 0. */
    private static final String WRAPS = "2048*2048*1024";
    private static final long ERROR = Long.MIN_VALUE;

    private SnowEdges() {
    }

    static void run(Edges e) {
        steps(e);
        weather(e);
        readings(e);
        values(e);
        nightsAndWinters(e);
        promises(e);
        promisesOfWeather(e);
    }

    private static void steps(Edges e) {
        e.sentence("T2", "Each WALKER is at HOME at first, without STEPS, in own BOOTS.", SnowEdges::atHomeAtFirst);
        e.sentence("T2", "A STEP by 0 up (y less), 1 right, 2 down, 3 left:", SnowEdges::ways);
        e.sentence("T2", "to the CELL beside, one STEP more;", SnowEdges::cellsBeside);
        e.sentence("T2", "with each STEP whose number can be divided by GAIT a MARK is left there,", SnowEdges::dividedByGait);
        e.sentence("T2", "if it is no TREE and no ICE:", SnowEdges::noMarkOnTreeOrIce);
        e.sentence("T2", "whose it is, whose it LOOKS (whose BOOTS these are), its CELL, the WAY, the HOUR,",
            SnowEdges::whatAMarkIs);
        e.sentence("T2", "DEEP: E of deep (1 .. 99; WEIGHT without, with an ERROR), COVER 0.", SnowEdges::deepOfMarks);
        e.sentence("T2", "MARKS are numbered from 0 on as they come, 90 at most;", SnowEdges::ninetyMarks);
        e.sentence("T2", "one that is GONE keeps its number.", SnowEdges::goneKeepsNumber);
    }

    private static void weather(Edges e) {
        e.sentence("T2", "An HOUR: each MARK without COVER that isn't GONE is less DEEP by E of fade",
            SnowEdges::fadingMarks);
        e.sentence("T2", "(0 .. 99; 0 without, with an ERROR),", SnowEdges::boundsOfFade);
        e.sentence("T2", "all by what was ahead;", SnowEdges::byWhatWasAhead);
        e.sentence("T2", "at 0 or below it is GONE.", SnowEdges::fadedAway);
        e.sentence("T2", "A FALL of n: all MARKS have n more COVER,", SnowEdges::moreCover);
        e.sentence("T2", "SNOW is n more (9999 at most).", SnowEdges::mostSnow);
        e.sentence("T2", "A THAW of n: of each MARK that isn't GONE first COVER is less,", SnowEdges::coverFirst);
        e.sentence("T2", "then, by what is left of n, DEEP (GONE at 0 or below);", SnowEdges::thenDeep);
        e.sentence("T2", "SNOW is n less, 0 at least.", SnowEdges::leastSnow);
        e.sentence("T2", "A FOX from a CELL by a WAY over n CELLS (that one first, as far as the field goes):",
            SnowEdges::asFarAsTheFieldGoes);
        e.sentence("T2", "the MARK READ in each is BLURRED.", SnowEdges::readOnesAreBlurred);
    }

    private static void readings(Edges e) {
        e.sentence("T2", "READ in a CELL: the latest MARK there that isn't GONE and has no COVER.", SnowEdges::latestMark);
        e.sentence("T2", "SCORE of a FARM: of all CELLS of its GROUND", SnowEdges::cellsOfItsGround);
        e.sentence("T2", "with a MARK READ that isn't BLURRED and LOOKS as one of another FARM:", SnowEdges::othersMarks);
        e.sentence("T2", "E of score (0 .. 99; 1 without, with an ERROR) in sum.", SnowEdges::boundsOfScore);
        e.sentence("T2", "NAMES, of a MARK: weight, gait: of whose it LOOKS (of deep: of whose it is);",
            SnowEdges::namesByLooks);
        e.sentence("T2", "far: steps (x and y) from that one's HOME;", SnowEdges::namesOfDistance);
        e.sentence("T2", "deep: DEEP, age: HOURS since (0 of deep, both);", SnowEdges::namesOfTime);
        e.sentence("T2", "snow: SNOW;", SnowEdges::namesOfSnow);
        e.sentence("T2", "own: 1, if that one's FARM has that GROUND.", SnowEdges::namesOfGround);
    }

    private static void values(Edges e) {
        e.sentence("T2", "VALUES are longs;", SnowEdges::longs);
        e.sentence("T2", "comparisons, and, or, not are 1 or 0 (what isn't 0 is as 1,", SnowEdges::oneOrZero);
        e.sentence("T2", "both sides are worked out),", SnowEdges::bothSides);
        e.sentence("T2", "/ is cut towards 0;", SnowEdges::cutTowardsZero);
        e.sentence("T2", "ERROR: / by 0,", SnowEdges::byZero);
        e.sentence("T2", "a value above 10 to the 12 or below 0 by more than that.", SnowEdges::tooLarge);
    }

    private static void nightsAndWinters(Edges e) {
        e.sentence("T2", "A NIGHT: a number modulo 3:", SnowEdges::kindsOfNights);
        e.sentence("T2", "0: a FALL of 1 and another number modulo 9;", SnowEdges::nightFalls);
        e.sentence("T2", "1: a THAW of 1 and another number modulo 5;", SnowEdges::nightThaws);
        e.sentence("T2", "2: nothing;", SnowEdges::nightsOfNothing);
        e.sentence("T2", "then an HOUR.", SnowEdges::hourBehindNight);
        e.sentence("T2", "Numbers are the last one (at first the seed) times 1103515245 and 12345, without what is above 31 bits,"
            + " by 65536.", SnowEdges::wrappedNumbers);
        e.sentence("T2", "A WINTER ends: each FARM's DEBT is more by what it SCORES,", SnowEdges::debts);
        e.sentence("T2", "all MARKS are gone from the list, SNOW is 0,", SnowEdges::emptyList);
        e.sentence("T2", "WALKERS are at HOME without STEPS, in own BOOTS.", SnowEdges::homeAgain);
    }

    private static void promises(Edges e) {
        e.sentence("6", "Of a WALKER now, what 0 the CELL, 1 the FARM, 2 STEPS, 3 whose BOOTS, 4 HOME.", SnowEdges::looks);
        e.sentence("6", "IndexOutOfBoundsException: no such WALKER.", SnowEdges::noSuchWalker);
        e.sentence("6", "NoSuchElementException: no such what.", SnowEdges::noSuchLook);
        e.sentence("7", "Of a CELL, what 0 whose GROUND (NONE), 1: 0 snow, 1 a TREE, 2 ICE, 2 how many MARKS that aren't GONE,"
            + " 3 the MARK READ (NONE).", SnowEdges::cells);
        e.sentence("7", "-2: no such ones.", SnowEdges::noSuchCell);
        e.sentence("8", "Of a MARK, what 0 whose it LOOKS, 1 its CELL, 2 WAY, 3 HOUR, 4 DEEP (0: GONE), 5 COVER, 6 whose it is,"
            + " 7 whether BLURRED (1, 0).", SnowEdges::marks);
        e.sentence("8", "NONE: no such ones.", SnowEdges::noSuchMark);
        e.sentence("9", "A law's E (what 0 fade, 1 score) for a MARK that isn't GONE;", SnowEdges::lawsOfMarks);
        e.sentence("9", "2 deep for a WALKER where it stands.", SnowEdges::lawsOfWalkers);
        e.sentence("9", "Long.MIN_VALUE: an ERROR,", SnowEdges::lawsWithError);
        e.sentence("9", "no such law,", SnowEdges::lawsNotTold);
        e.sentence("9", "no such ones.", SnowEdges::noSuchLaw);
        e.sentence("10", "A STEP: to which CELL;", SnowEdges::stepTo);
        e.sentence("10", "-2: outside,", SnowEdges::stepOutside);
        e.sentence("10", "or a MARK would be the 91st;", SnowEdges::ninetyFirst);
        e.sentence("10", "NONE: no such ones.", SnowEdges::noSuchStep);
        e.sentence("11", "A WALKER has these BOOTS from now on: true;", SnowEdges::bootsFromNowOn);
        e.sentence("11", "false: no such ones, it is so.", SnowEdges::noSuchBoots);
        e.sentence("12", "A FOX over n (1 .. 8) CELLS:", SnowEdges::reachOfFoxes);
        e.sentence("12", "how many MARKS are BLURRED that were not;", SnowEdges::blurredThatWereNot);
        e.sentence("12", "NONE: no such ones.", SnowEdges::noSuchFox);
    }

    private static void promisesOfWeather(Edges e) {
        e.sentence("13", "So many HOURS (0 .. 99) go by: which one it is;", SnowEdges::hoursGoBy);
        e.sentence("13", "NONE, and none does: no such number,", SnowEdges::noSuchHours);
        e.sentence("13", "behind 9999.", SnowEdges::hoursBehindTheLast);
        e.sentence("14", "A FALL (n 1 .. 99): SNOW;", SnowEdges::falls);
        e.sentence("14", "NONE: no such number.", SnowEdges::noSuchFall);
        e.sentence("15", "A THAW (n 1 .. 99): how many MARKS are GONE by it;", SnowEdges::goneByThaw);
        e.sentence("15", "NONE: no such number.", SnowEdges::noSuchThaw);
        e.sentence("16", "A NIGHT: how much fell (below 0: thawed, 0: neither);", SnowEdges::nightAnswers);
        e.sentence("16", "-100: it would be behind HOUR 9999 (no number is drawn).", SnowEdges::nightBehindTheLast);
        e.sentence("17", "A WINTER ends: how many ended.", SnowEdges::wintersEnded);
        e.sentence("18", "Whose MARK is READ in a CELL (LOOKS);", SnowEdges::whoseIsRead);
        e.sentence("18", "-2: none is;", SnowEdges::noneIsRead);
        e.sentence("18", "-3: it is BLURRED;", SnowEdges::blurredIsRead);
        e.sentence("18", "NONE: no such CELL.", SnowEdges::noSuchReading);
        e.sentence("19", "SCORE of a FARM (what 0), its DEBT (1);", SnowEdges::scoreAndDebt);
        e.sentence("19", "NONE: no such ones.", SnowEdges::noSuchScore);
        e.sentence("20", "The FARM with the greatest DEBT and SCORE in sum (the first of several);", SnowEdges::greatestSum);
        e.sentence("20", "NONE: there are none.", SnowEdges::noFarms);
    }

    // ---- steps and marks

    private static void atHomeAtFirst(Edges e) {
        SnowScore x = told("farm f 0 0 0 0;walker a f 1 1 0 0;walker b f 1 2 5 0;walker c f 1 3 0 4;walker d f 1 1 5 4;"
            + "walker e f 1 1 2 2;");
        int[] homes = {0, 5, 24, 29, 14};
        for (int walker = 0; walker < 5; walker++) {
            e.due("at home", x.look(walker, 0), homes[walker]);
            e.due("home", x.look(walker, 4), homes[walker]);
            e.due("no steps", x.look(walker, 2), 0);
            e.due("own boots", x.look(walker, 3), walker);
        }
        e.due("no mark there", x.count(7), 0);
    }

    private static void ways(Edges e) {
        SnowScore x = told("field 3 3;farm f 0 0 0 0;walker w f 1 1 1 1;");
        e.due("up", x.step(0, 0), 1);
        e.due("right", x.step(0, 1), 2);
        e.due("down", x.step(0, 2), 5);
        e.due("left", x.step(0, 3), 4);
    }

    private static void cellsBeside(Edges e) {
        // The end of a row isn't beside the beginning of the next one.
        SnowScore x = told("field 3 2;farm f 0 0 0 0;walker w f 1 1 2 0;walker v f 1 1 0 1;");
        e.due("right of the end", x.step(0, 1), -2);
        e.due("left of the beginning", x.step(1, 3), -2);
        e.due("above the first row", x.step(0, 0), -2);
        e.due("below the last row", x.step(1, 2), -2);
        e.due("no step more by that", x.look(0, 2) + x.look(1, 2), 0);
        e.due("below", x.step(0, 2), 5);
        e.due("above", x.step(1, 0), 0);
        e.due("one step more", x.look(0, 2), 1);
        x = told("field 1 1;farm f 0 0 0 0;walker w f 1 1 0 0;");
        for (int way = 0; way < 4; way++) {
            e.due("none beside", x.step(0, way), -2);
        }
        x = told("field 8 6;farm f 0 0 0 0;walker w f 1 1 7 5;");
        e.due("at the last cell, right", x.step(0, 1), -2);
        e.due("at the last cell, down", x.step(0, 2), -2);
        e.due("at the last cell, left", x.step(0, 3), 46);
    }

    private static void dividedByGait(Edges e) {
        for (int gait = 1; gait <= 3; gait++) {
            SnowScore x = told("field 2 1;farm f 0 0 0 0;walker w f 9 " + gait + " 0 0;");
            for (int step = 1; step <= 12; step++) {
                x.step(0, step % 2 == 1 ? 1 : 3);
                e.due("a gait of " + gait + ", step " + step, x.count(7), step / gait);
            }
        }
        // By one's own gait, whosever boots one has.
        SnowScore x = told("field 2 1;farm f 0 0 0 0;walker w f 9 1 0 0;walker v f 9 3 0 0;");
        x.boots(0, 1);
        x.boots(1, 0);
        walk(x, 0, 1);
        e.due("in boots of a gait of 3", x.count(7), 1);
        walk(x, 1, 1, 3);
        e.due("in boots of a gait of 1", x.count(7), 1);
    }

    private static void noMarkOnTreeOrIce(Edges e) {
        SnowScore x = told("field 4 1;tree 1 0;ice 2 0;farm f 0 0 3 0;walker w f 9 1 0 0;walker v f 9 2 0 0;");
        e.due("into a tree", x.step(0, 1), 1);
        e.due("none in a tree", x.count(7), 0);
        e.due("onto ice", x.step(0, 1), 2);
        e.due("none on ice", x.count(7), 0);
        walk(x, 0, 1);
        e.due("in snow", x.count(7), 1);
        // The second step is on ice, the fourth in snow.
        walk(x, 1, 1, 1);
        e.due("the step counts", x.look(1, 2), 2);
        e.due("none on ice by two", x.count(7), 1);
        walk(x, 1, 3, 3);
        e.due("the fourth", x.mark(1, 1), 0);
    }

    private static void whatAMarkIs(Edges e) {
        SnowScore x = told(ROW);
        x.hours(7);
        x.boots(1, 0);
        walk(x, 1, 3);
        e.due("whose it is", x.mark(0, 6), 1);
        e.due("whose it looks", x.mark(0, 0), 0);
        e.due("its cell", x.mark(0, 1), 6);
        e.due("the way", x.mark(0, 2), 3);
        e.due("the hour", x.mark(0, 3), 7);
        e.due("deep by whose it is", x.mark(0, 4), 10);
        x.boots(1, 1);
        e.due("it looks as it did", x.mark(0, 0), 0);
        x.hours(5);
        e.due("its hour stays", x.mark(0, 3), 7);
    }

    private static int deepBy(String law) {
        SnowScore x = told(ROW + law);
        walk(x, 0, 1);
        return x.mark(0, 4);
    }

    private static void deepOfMarks(Edges e) {
        e.due("0", deepBy("law deep 0;"), 1);
        e.due("1", deepBy("law deep 1;"), 1);
        e.due("2", deepBy("law deep 2;"), 2);
        e.due("98", deepBy("law deep 98;"), 98);
        e.due("99", deepBy("law deep 99;"), 99);
        e.due("100", deepBy("law deep 100;"), 99);
        e.due("below 0", deepBy("law deep 0-1;"), 1);
        e.due("far above", deepBy("law deep 1000*1000*1000*1000;"), 99);
        e.due("far below", deepBy("law deep 0-1000*1000*1000*1000;"), 1);
        e.due("what an int would take for 0", deepBy("law deep " + WRAPS + ";"), 99);
        e.due("what an int would take for 7", deepBy("law deep 0-" + WRAPS + "+7;"), 1);
        e.due("without", deepBy(""), 20);
        e.due("without, other laws told", deepBy("law fade 3;law score 4;"), 20);
        e.due("with an error", deepBy("law deep 1/0;"), 20);
        e.due("by a value too large", deepBy("law deep 1000*1000*1000*1001;"), 20);
        SnowScore x = told(ROW);
        x.fall(9);
        walk(x, 0, 1);
        e.due("COVER", x.mark(0, 5), 0);
        e.due("not BLURRED", x.mark(0, 7), 0);
        x.undo();
        walk(x, 0, 1);
        x.fox(1, 0, 1);
        x.undo();
        x.undo();
        walk(x, 0, 1);
        e.due("not BLURRED in the place of one that was", x.mark(0, 7), 0);
    }

    private static SnowScore withNinetyMarks(String text) {
        SnowScore x = told(text);
        for (int i = 0; i < 45; i++) {
            walk(x, 0, 1, 3);
        }
        return x;
    }

    private static void ninetyMarks(Edges e) {
        SnowScore x = withNinetyMarks("field 2 1;farm f 0 0 1 0;farm g 1 0 1 0;walker w f 9 1 0 0;walker v g 9 1 1 0;");
        e.due("90", x.count(7), 90);
        e.due("the first", x.mark(0, 1), 1);
        e.due("the last", x.mark(89, 1), 0);
        e.due("no 91st", x.mark(90, 1), -1);
        e.due("no step that would leave one", x.step(0, 1), -2);
        e.due("nor another's", x.step(1, 3), -2);
        e.due("still 90", x.count(7), 90);
        // All that there is goes over all 90.
        e.due("read", x.cell(0, 3) * 100 + x.cell(1, 3), 8988);
        e.due("in a cell", x.cell(0, 2), 45);
        e.due("a trail of all", x.trail(89), 90);
        e.due("the first of it", x.trailed(89, 89), 0);
        e.due("no more", x.trailed(89, 90), -2);
        x.undo();
        e.due("room again", x.step(1, 3), 0);
        x.winter();
        e.due("from 0 on behind a winter", x.step(0, 1), 1);
        e.due("one", x.count(7), 1);
    }

    private static void goneKeepsNumber(Edges e) {
        SnowScore x = told(ROW + "law fade 20*(far=1);");
        walk(x, 0, 1, 1);
        x.hours(1);
        e.due("0 is gone", x.mark(0, 4), 0);
        e.due("0 has its cell", x.mark(0, 1), 1);
        e.due("1 is there", x.mark(1, 1), 2);
        walk(x, 0, 1);
        e.due("the next one is 2", x.mark(2, 1), 3);
        e.due("three with the gone one", x.count(7), 3);
        e.due("two without", x.count(8), 2);
        x = withNinetyMarks("field 2 1;farm f 0 0 1 0;walker w f 9 1 0 0;");
        x.thaw(99);
        e.due("all gone", x.count(8), 0);
        e.due("90 still", x.count(7), 90);
        e.due("no room by that", x.step(0, 1), -2);
    }

    // ---- weather

    private static void fadingMarks(Edges e) {
        SnowScore x = told(ROW + "law fade 2;");
        walk(x, 0, 1);
        x.fall(1);
        walk(x, 0, 1);
        x.hours(1);
        e.due("under cover", x.mark(0, 4), 20);
        e.due("bare", x.mark(1, 4), 18);
        x.thaw(1);
        e.due("laid bare", x.mark(0, 5), 0);
        x.hours(1);
        e.due("bare now", x.mark(0, 4), 18);
        x.hours(20);
        e.due("gone", x.mark(0, 4), 0);
        x.hours(1);
        e.due("still 0", x.mark(0, 4), 0);
    }

    private static int leftBy(String laws) {
        SnowScore x = told(ROW + laws);
        walk(x, 0, 1);
        x.hours(1);
        return x.mark(0, 4);
    }

    private static void boundsOfFade(Edges e) {
        e.due("0", leftBy("law fade 0;"), 20);
        e.due("1", leftBy("law fade 1;"), 19);
        e.due("below 0", leftBy("law fade 0-1;"), 20);
        e.due("far below 0", leftBy("law fade 0-1000*1000*1000*1000;"), 20);
        e.due("98 of 99", leftBy("law deep 99;law fade 98;"), 1);
        e.due("99 of 99", leftBy("law deep 99;law fade 99;"), 0);
        e.due("100 of 99", leftBy("law deep 99;law fade 100;"), 0);
        e.due("far above", leftBy("law deep 99;law fade 1000*1000*1000*1000;"), 0);
        e.due("what an int would take for 0", leftBy("law deep 99;law fade " + WRAPS + ";"), 0);
        e.due("without", leftBy(""), 20);
        e.due("without, other laws told", leftBy("law deep 30;law score 5;"), 30);
        e.due("with an error", leftBy("law fade 1/0;"), 20);
        e.due("by a value too large", leftBy("law fade 1000*1000*1000*1001;"), 20);
    }

    private static void byWhatWasAhead(Edges e) {
        SnowScore x = told(ROW + "law deep 90;law fade age*10+deep/90;");
        walk(x, 0, 1);
        x.hours(1);
        e.due("age 0, DEEP 90", x.mark(0, 4), 89);
        x.hours(1);
        e.due("age 1, DEEP 89", x.mark(0, 4), 79);
        x.hours(1);
        e.due("age 2", x.mark(0, 4), 59);
    }

    private static void fadedAway(Edges e) {
        e.due("to 1", leftBy("law fade 19;"), 1);
        e.due("to 0", leftBy("law fade 20;"), 0);
        e.due("below 0", leftBy("law fade 21;"), 0);
        for (int fade = 19; fade <= 21; fade++) {
            SnowScore x = told(ROW + "law fade " + fade + ";");
            walk(x, 0, 1);
            x.hours(1);
            e.due("that aren't gone, by " + fade, x.count(8), fade < 20 ? 1 : 0);
            e.due("read, by " + fade, x.read(1), fade < 20 ? 0 : -2);
            e.due("a trail, by " + fade, x.trail(0), fade < 20 ? 1 : -1);
        }
    }

    private static void moreCover(Edges e) {
        SnowScore x = told(ROW);
        walk(x, 0, 1);
        x.fall(3);
        walk(x, 0, 1);
        x.fall(99);
        e.due("the first", x.mark(0, 5), 102);
        e.due("the second", x.mark(1, 5), 99);
        x.thaw(99);
        x.thaw(23);
        e.due("gone", x.count(8), 0);
        x.fall(4);
        e.due("gone ones, too", x.mark(0, 5), 4);
        e.due("they stay gone", x.mark(0, 4), 0);
        // COVER goes on where SNOW can't.
        x = told(ROW);
        walk(x, 0, 1);
        for (int i = 0; i < 102; i++) {
            x.fall(99);
        }
        e.due("beyond 9999", x.mark(0, 5), 10098);
    }

    private static void mostSnow(Edges e) {
        SnowScore x = new SnowScore();
        for (int i = 1; i <= 101; i++) {
            e.due("fall " + i, x.fall(99), 99L * i);
        }
        e.due("9999 is reached", x.count(6), 9999);
        e.due("one more", x.fall(1), 9999);
        e.due("99 more", x.fall(99), 9999);
        x.thaw(1);
        e.due("one less", x.count(6), 9998);
        e.due("at 9998 one more", x.fall(1), 9999);
        x.thaw(1);
        e.due("at 9998 two more", x.fall(2), 9999);
    }

    private static void coverFirst(Edges e) {
        SnowScore x = told(ROW);
        walk(x, 0, 1);
        x.fall(5);
        x.thaw(4);
        e.due("COVER 1", x.mark(0, 5), 1);
        e.due("DEEP stays", x.mark(0, 4), 20);
        x.thaw(1);
        e.due("COVER 0", x.mark(0, 5), 0);
        e.due("DEEP stays, too", x.mark(0, 4), 20);
        // One that is gone keeps what fell on it.
        x.thaw(20);
        x.fall(3);
        x.thaw(2);
        e.due("COVER of a gone one", x.mark(0, 5), 3);
    }

    private static void thenDeep(Edges e) {
        int[] thaws = {2, 3, 4, 21, 22, 23, 24, 99};
        int[] covers = {1, 0, 0, 0, 0, 0, 0, 0};
        int[] deeps = {20, 20, 19, 2, 1, 0, 0, 0};
        for (int i = 0; i < thaws.length; i++) {
            SnowScore x = told(ROW);
            walk(x, 0, 1);
            x.fall(3);
            e.due("gone by " + thaws[i], x.thaw(thaws[i]), deeps[i] == 0 ? 1 : 0);
            e.due("COVER by " + thaws[i], x.mark(0, 5), covers[i]);
            e.due("DEEP by " + thaws[i], x.mark(0, 4), deeps[i]);
            e.due("that aren't gone by " + thaws[i], x.count(8), deeps[i] == 0 ? 0 : 1);
        }
    }

    private static void leastSnow(Edges e) {
        SnowScore x = new SnowScore();
        x.thaw(1);
        e.due("none", x.count(6), 0);
        x.fall(5);
        x.thaw(4);
        e.due("5 less 4", x.count(6), 1);
        x.thaw(1);
        e.due("1 less 1", x.count(6), 0);
        x.fall(5);
        x.thaw(6);
        e.due("5 less 6", x.count(6), 0);
        x.fall(5);
        x.thaw(99);
        e.due("5 less 99", x.count(6), 0);
        e.due("from 0 on again", x.fall(2), 2);
    }

    private static void asFarAsTheFieldGoes(Edges e) {
        String field = "field 3 3;farm f 0 0 0 0;walker w f 60 1 0 0;";
        int[] round = {1, 1, 2, 3, 3, 2, 1, 1, 3, 3, 0, 0};
        // From a cell by a way with a reach beyond the field: how many are met.
        int[][] dues = {{0, 3, 1}, {0, 2, 3}, {2, 3, 3}, {2, 1, 1}, {2, 2, 3}, {8, 0, 3}, {8, 1, 1}, {4, 0, 2}, {4, 1, 2}, {4, 2, 2},
            {4, 3, 2}, {6, 1, 3}, {5, 1, 1}, {3, 3, 1}, {7, 2, 1}, {1, 0, 1}};
        for (int[] due : dues) {
            SnowScore x = told(field);
            walk(x, 0, round);
            e.due("all nine are read", x.count(9), 9);
            e.due("from " + due[0] + " by " + due[1], x.fox(due[0], due[1], 8), due[2]);
        }
        SnowScore x = told(ROW);
        walk(x, 0, 1, 1, 1, 1);
        e.due("that one first, and one more", x.fox(1, 1, 2), 2);
        e.due("1", x.mark(0, 7), 1);
        e.due("2", x.mark(1, 7), 1);
        e.due("not 3", x.mark(2, 7), 0);
        x = told("field 8 1;farm f 0 0 7 0;walker w f 9 1 0 0;");
        walk(x, 0, 1, 1, 1, 1, 1, 1, 1, 3, 3, 3, 3, 3, 3, 3);
        e.due("all eight of a row", x.fox(0, 1, 8), 8);
    }

    private static void readOnesAreBlurred(Edges e) {
        SnowScore x = told(ROW);
        walk(x, 0, 1, 1, 3);
        e.due("two cells", x.fox(1, 1, 8), 2);
        e.due("the one below isn't", x.mark(0, 7), 0);
        e.due("the one above is", x.mark(2, 7), 1);
        x = told(ROW);
        walk(x, 0, 1);
        x.fall(1);
        e.due("covered", x.fox(1, 1, 1), 0);
        e.due("none by that", x.mark(0, 7), 0);
        x.thaw(21);
        e.due("gone", x.fox(1, 1, 1), 0);
        e.due("none by that, too", x.mark(0, 7), 0);
        // What is blurred stays so under snow and behind it.
        x = told(ROW);
        walk(x, 0, 1);
        x.fox(1, 1, 1);
        x.fall(2);
        x.thaw(2);
        x.hours(1);
        e.due("blurred still", x.read(1), -3);
        e.due("a fox over trees and ice", told("field 2 1;tree 0 0;ice 1 0;").fox(0, 1, 2), 0);
    }

    // ---- readings

    private static void latestMark(Edges e) {
        SnowScore x = told(ROW.replace("walker v g 10", "walker v g 30"));
        e.due("none", x.cell(1, 3), -1);
        walk(x, 1, 3, 3, 3, 3, 3, 3);
        walk(x, 0, 1);
        e.due("the latest", x.cell(1, 3), 6);
        x.thaw(20);
        e.due("not the gone one", x.cell(1, 3), 5);
        x.fall(1);
        e.due("not the covered one", x.cell(1, 3), -1);
        walk(x, 0, 3, 1);
        e.due("the bare one", x.cell(1, 3), 8);
        x.thaw(1);
        e.due("the latest of two bare ones", x.cell(1, 3), 8);
        e.due("in the cell alone", x.cell(7, 3), -1);
        e.due("three there", x.cell(1, 2), 2);
    }

    private static void cellsOfItsGround(Edges e) {
        SnowScore x = told("field 4 1;farm f 0 0 0 0;farm g 1 0 2 0;walker w f 9 1 0 0;");
        walk(x, 0, 1, 1, 1);
        e.due("two of three", x.score(1, 0), 2);
        walk(x, 0, 3);
        e.due("a cell once", x.score(1, 0), 2);
        x = told("field 3 1;farm f 0 0 2 0;farm g 0 0 2 0;walker w f 9 1 0 0;walker v g 9 1 0 0;");
        walk(x, 0, 1, 1);
        walk(x, 1, 1);
        e.due("a farm without ground", x.score(0, 0), 0);
        e.due("all the ground", x.score(1, 0), 1);
    }

    private static void othersMarks(Edges e) {
        SnowScore x = told(ROW);
        walk(x, 0, 1, 1, 1);
        e.due("three", x.score(1, 0), 3);
        x.fox(3, 1, 1);
        e.due("one blurred", x.score(1, 0), 2);
        walk(x, 1, 3, 3, 3, 3, 3);
        e.due("its own upon one", x.score(1, 0), 1);
        x.boots(0, 1);
        walk(x, 0, 3, 3);
        e.due("in its boots upon the other", x.score(1, 0), 0);
        x.boots(1, 0);
        walk(x, 1, 3);
        e.due("its own, in the other's boots", x.score(1, 0), 1);
        x.fall(1);
        e.due("none is read", x.score(1, 0), 0);
        x = told("field 3 1;farm f 0 0 2 0;walker w f 9 1 0 0;walker v f 9 1 0 0;");
        walk(x, 0, 1);
        walk(x, 1, 1, 1);
        e.due("of one's own farm, by another walker", x.score(0, 0), 0);
    }

    private static int scoreBy(String laws) {
        SnowScore x = told(ROW + laws);
        walk(x, 0, 1, 1);
        return x.score(1, 0);
    }

    private static void boundsOfScore(Edges e) {
        e.due("0", scoreBy("law score 0;"), 0);
        e.due("1", scoreBy("law score 1;"), 2);
        e.due("99", scoreBy("law score 99;"), 198);
        e.due("100", scoreBy("law score 100;"), 198);
        e.due("below 0", scoreBy("law score 0-1;"), 0);
        e.due("one below 0, one above", scoreBy("law score far*10-15;"), 5);
        e.due("far above", scoreBy("law score 1000*1000*1000*1000;"), 198);
        e.due("far below", scoreBy("law score 0-1000*1000*1000*1000;"), 0);
        e.due("what an int would take for 0", scoreBy("law score " + WRAPS + ";"), 198);
        e.due("without", scoreBy(""), 2);
        e.due("without, other laws told", scoreBy("law deep 9;law fade 9;"), 2);
        e.due("with an error", scoreBy("law score 1/0;"), 2);
        e.due("with an error of one", scoreBy("law score 7/(far-1);"), 8);
        e.due("by a value too large", scoreBy("law score 1000*1000*1000*1001;"), 2);
        // As much as there can be: 47 cells by 99, and the winters' debts of it.
        SnowScore x = told("field 8 6;farm f 0 0 0 0;farm g 0 0 7 5;walker w f 9 1 0 0;law score 99;");
        for (int row = 0; row < 6; row++) {
            for (int i = 0; i < 7; i++) {
                walk(x, 0, row % 2 == 0 ? 1 : 3);
            }
            walk(x, 0, 2);
        }
        e.due("47 by 99", x.score(1, 0), 47 * 99);
    }

    // ---- names of laws

    /** The value of score for a mark of v in w's boots, four steps from v's home, three from w's, six hours ago. */
    private static long ofMark(String name) {
        SnowScore x = told(ROW.replace("walker v g 10 1", "walker v g 10 2") + "law deep 33;law score " + name + ";");
        x.fall(8);
        x.boots(1, 0);
        walk(x, 1, 3, 3, 3, 3);
        x.hours(6);
        return x.law(1, 1);
    }

    private static void namesByLooks(Edges e) {
        e.due("weight", ofMark("weight"), 20);
        e.due("gait", ofMark("gait"), 1);
        SnowScore x = told(ROW.replace("walker v g 10 1", "walker v g 10 2") + "law deep weight*10+gait;");
        x.boots(1, 0);
        e.due("deep is by whose it is", x.law(2, 1), 102);
        walk(x, 1, 3, 3);
        e.due("DEEP is by whose it is", x.mark(0, 4), 99);
        x = told(ROW + "law deep weight+gait;");
        x.boots(1, 0);
        walk(x, 1, 3);
        e.due("DEEP below 99 is by whose it is", x.mark(0, 4), 11);
    }

    private static void namesOfDistance(Edges e) {
        e.due("far", ofMark("far"), 3);
        SnowScore x = told("field 8 6;farm f 0 0 0 0;walker w f 9 1 0 0;walker v f 9 1 7 5;law deep far;law score far;");
        e.due("at home", x.law(2, 0), 0);
        walk(x, 0, 1, 1, 2, 2, 2);
        e.due("x and y", x.law(2, 0), 5);
        e.due("of its mark", x.law(1, 4), 5);
        e.due("DEEP by where it is left", x.mark(4, 4), 5);
        walk(x, 1, 0, 0, 0, 0, 0, 3, 3, 3, 3, 3, 3, 3);
        e.due("from one end to the other", x.law(2, 1), 12);
        x.boots(1, 0);
        walk(x, 1, 1);
        e.due("deep, by whose it is", x.law(2, 1), 11);
        e.due("score, by whose it looks", x.law(1, x.count(7) - 1), 1);
    }

    private static void namesOfTime(Edges e) {
        e.due("deep", ofMark("deep"), 33);
        e.due("age", ofMark("age"), 6);
        SnowScore x = told(ROW + "law deep deep*100+age*10+5;law fade deep-age;");
        x.hours(9);
        e.due("0 of deep, both", x.law(2, 0), 5);
        walk(x, 0, 1);
        e.due("0 of DEEP, both", x.mark(0, 4), 5);
        e.due("at once", x.law(0, 0), 5);
        x.fall(1);
        x.hours(3);
        e.due("three hours on", x.law(0, 0), 2);
    }

    private static void namesOfSnow(Edges e) {
        e.due("snow", ofMark("snow"), 8);
        SnowScore x = told(ROW + "law deep snow;");
        e.due("none", x.law(2, 0), 0);
        x.fall(30);
        walk(x, 0, 1);
        e.due("DEEP by it", x.mark(0, 4), 30);
        for (int i = 0; i < 102; i++) {
            x.fall(99);
        }
        e.due("as much as there can be", x.law(2, 0), 9999);
    }

    private static void namesOfGround(Edges e) {
        e.due("own", ofMark("own"), 0);
        SnowScore x = told("field 3 1;farm f 0 0 0 0;farm g 1 0 1 0;walker w f 9 1 0 0;walker v g 9 1 0 0;law deep 5+own;law fade own;");
        e.due("at home", x.law(2, 0), 6);
        e.due("v there", x.law(2, 1), 5);
        walk(x, 0, 1, 1);
        e.due("another's", x.mark(0, 4), 5);
        e.due("nobody's", x.mark(1, 4), 5);
        walk(x, 0, 3, 3);
        e.due("own again", x.mark(3, 4), 6);
        x.boots(0, 1);
        walk(x, 0, 1);
        e.due("DEEP by whose it is", x.mark(4, 4), 5);
        e.due("fade by whose it looks", x.law(0, 4), 1);
    }

    // ---- values

    private static long value(String e) {
        return told(ROW + "law deep " + e + ";").law(2, 0);
    }

    private static void longs(Edges e) {
        e.due("2 to the 31", value("2048*1024*1024"), 2147483648L);
        e.due("2 to the 32", value(WRAPS), 4294967296L);
        e.due("below 0", value("0-9999*9999*9999"), -999700029999L);
        e.due("two that an int would take for alike", value("2048*2048*1024=0"), 0);
        e.due("one that an int would take for below 0", value("2048*1024*1024>0"), 1);
        e.due("cut from a long", value("9999*9999*9999/9999"), 99980001);
    }

    private static void oneOrZero(Edges e) {
        e.due("5 and 7", value("5 and 7"), 1);
        e.due("5 and 0", value("5 and 0"), 0);
        e.due("0 and 5", value("0 and 5"), 0);
        e.due("below 0 and above", value("(0-1) and 2"), 1);
        e.due("0 or 9", value("0 or 9"), 1);
        e.due("9 or 0", value("9 or 0"), 1);
        e.due("0 or below 0", value("0 or 0-9"), 1);
        e.due("0 or 0", value("0 or 0"), 0);
        e.due("not 0", value("not 0"), 1);
        e.due("not 1", value("not 1"), 0);
        e.due("not 9", value("not 9"), 0);
        e.due("not below 0", value("not 0-9"), 0);
        e.due("2 and 4 have no bit alike", value("2 and 4"), 1);
        e.due("what an int would take for 0", value(WRAPS + " and 1"), 1);
        e.due("what an int would take for 0, or", value(WRAPS + " or 0"), 1);
        e.due("what an int would take for 0, not", value("not " + WRAPS), 0);
        e.due("a sum of them", value("(1<2)+(2<3)+(3<2)"), 2);
    }

    private static void bothSides(Edges e) {
        e.due("1 or an error", value("1 or 1/0"), ERROR);
        e.due("an error or 1", value("1/0 or 1"), ERROR);
        e.due("0 and an error", value("0 and 1/0"), ERROR);
        e.due("an error and 0", value("1/0 and 0"), ERROR);
        e.due("0 times an error", value("0*(1/0)"), ERROR);
        e.due("not an error", value("not 1/0"), ERROR);
        e.due("an error compared", value("1/0=1/0"), ERROR);
        e.due("1 or one too large", value("1 or 1000*1000*1000*1001"), ERROR);
    }

    private static void cutTowardsZero(Edges e) {
        e.due("7/2", value("7/2"), 3);
        e.due("(0-7)/2", value("(0-7)/2"), -3);
        e.due("7/(0-2)", value("7/(0-2)"), -3);
        e.due("(0-7)/(0-2)", value("(0-7)/(0-2)"), 3);
        e.due("1/2", value("1/2"), 0);
        e.due("(0-1)/2", value("(0-1)/2"), 0);
        e.due("0/5", value("0/5"), 0);
        e.due("6/3", value("6/3"), 2);
    }

    private static void byZero(Edges e) {
        e.due("1/0", value("1/0"), ERROR);
        e.due("0/0", value("0/0"), ERROR);
        e.due("1/(2-2)", value("1/(2-2)"), ERROR);
        e.due("1/(1<0)", value("1/(1<0)"), ERROR);
        e.due("1/age", value("1/age"), ERROR);
        e.due("within more", value("5+3*(1/0)-2"), ERROR);
        e.due("1/(0-1)", value("1/(0-1)"), -1);
        e.due("by what an int would take for 0", value("1/(" + WRAPS + ")"), 0);
    }

    private static void tooLarge(Edges e) {
        String most = "1000*1000*1000*1000";
        long all = 1000000000000L;
        e.due("the most by *", value(most), all);
        e.due("the least by *", value("(0-1000)*1000*1000*1000"), -all);
        e.due("the least by -", value("0-" + most), -all);
        e.due("the most by +", value("1000*1000*1000*999+1000*1000*1000"), all);
        e.due("one above by +", value(most + "+1"), ERROR);
        e.due("one above by -", value(most + "-(0-1)"), ERROR);
        e.due("one below by -", value("0-" + most + "-1"), ERROR);
        e.due("one below by +", value("(0-1)+(0-" + most + ")"), ERROR);
        e.due("above by *", value("1000*1000*1000*1001"), ERROR);
        e.due("below by *", value("(0-1000)*1000*1000*1001"), ERROR);
        // 10 to the 12 and 1 is 73 times 137 times 99990001.
        e.due("one above by *", value("73*137*(9999*9999+9999+1)"), ERROR);
        e.due("one below the least by *", value("(0-73)*137*(9999*9999+9999+1)"), ERROR);
        e.due("one less than the most by *", value("(1000*1000-1)*(1000*1000+1)"), all - 1);
        e.due("between", value(most + "+1-1"), ERROR);
        e.due("beyond a long", value("(" + most + ")*(" + most + ")"), ERROR);
        e.due("beyond a long, below", value("(0-" + most + ")*(" + most + ")"), ERROR);
        e.due("beyond a long, both below", value("(0-" + most + ")*(0-" + most + ")"), ERROR);
        // 2 to the 32 by itself is 2 to the 64: what a long would take for 0.
        e.due("what a long would take for 0", value("(" + WRAPS + ")*(" + WRAPS + ")"), ERROR);
        e.due("0 times the most", value("0*(" + most + ")"), 0);
        e.due("the most times 0", value("(" + most + ")*0"), 0);
        e.due("the most times 1", value("(" + most + ")*1"), all);
        e.due("the most times -1", value("(" + most + ")*(0-1)"), -all);
        e.due("the most by 1", value("(" + most + ")/1"), all);
        e.due("the least by -1", value("(0-" + most + ")/(0-1)"), all);
        e.due("the most compared", value(most + ">0"), 1);
    }

    // ---- nights and winters

    /** The first seed whose first night answers so. */
    private static int seedOf(int night) {
        for (int seed = 0; seed < 100000; seed++) {
            if (Numbers.night(seed) == night) {
                return seed;
            }
        }
        throw new IllegalStateException("no seed for a night of " + night);
    }

    private static void kindsOfNights(Edges e) {
        for (int seed = 0; seed < 60; seed++) {
            SnowScore x = told("seed " + seed + ";");
            Numbers numbers = new Numbers(seed);
            for (int i = 0; i < 6; i++) {
                e.due("seed " + seed + ", night " + i, x.night(), numbers.nextNight());
            }
        }
    }

    private static void nightFalls(Edges e) {
        for (int fall = 1; fall <= 9; fall++) {
            SnowScore x = told(ROW + "seed " + seedOf(fall) + ";");
            walk(x, 0, 1);
            e.due("a fall of " + fall, x.night(), fall);
            e.due("SNOW", x.count(6), fall);
            e.due("COVER", x.mark(0, 5), fall);
        }
        SnowScore x = told("seed " + seedOf(9) + ";");
        for (int i = 0; i < 101; i++) {
            x.fall(99);
        }
        e.due("a fall of 9 upon 9999", x.night(), 9);
        e.due("9999 at most", x.count(6), 9999);
    }

    private static void nightThaws(Edges e) {
        for (int thaw = 1; thaw <= 5; thaw++) {
            SnowScore x = told(ROW + "seed " + seedOf(-thaw) + ";");
            x.fall(1);
            walk(x, 0, 1);
            e.due("a thaw of " + thaw, x.night(), -thaw);
            e.due("SNOW, 0 at least", x.count(6), 0);
            e.due("DEEP", x.mark(0, 4), 20 - thaw);
        }
        SnowScore x = told(ROW + "law deep 5;seed " + seedOf(-5) + ";");
        walk(x, 0, 1);
        x.night();
        e.due("gone", x.count(8), 0);
    }

    private static void nightsOfNothing(Edges e) {
        SnowScore x = told(ROW + "seed " + seedOf(0) + ";");
        x.fall(3);
        walk(x, 0, 1);
        e.due("nothing", x.night(), 0);
        e.due("SNOW", x.count(6), 3);
        e.due("COVER", x.mark(0, 5), 0);
        e.due("DEEP", x.mark(0, 4), 20);
        // No other number is drawn for it.
        Numbers numbers = new Numbers(seedOf(0));
        numbers.next();
        e.due("the next night", x.night(), numbers.nextNight());
    }

    private static void hourBehindNight(Edges e) {
        SnowScore x = told(ROW + "law fade 2;seed " + seedOf(4) + ";");
        walk(x, 0, 1);
        x.night();
        e.due("covered ahead of the hour", x.mark(0, 4), 20);
        e.due("an hour", x.count(5), 1);
        x = told(ROW + "law fade 2;seed " + seedOf(-3) + ";");
        walk(x, 0, 1);
        x.fall(3);
        x.night();
        e.due("laid bare ahead of the hour", x.mark(0, 4), 18);
        x = told(ROW + "law fade 2;seed " + seedOf(0) + ";");
        walk(x, 0, 1);
        x.night();
        e.due("an hour of nothing", x.mark(0, 4), 18);
        // The law's snow is what lies behind the fall.
        x = told(ROW + "law fade snow;seed " + seedOf(-3) + ";");
        x.fall(5);
        walk(x, 0, 1);
        x.night();
        e.due("by the SNOW behind the thaw", x.mark(0, 4), 20 - 3 - 2);
    }

    private static void wrappedNumbers(Edges e) {
        for (int seed : new int[] {0, 1, 2, 65535, 65536, 99998, 99999}) {
            SnowScore x = told("seed " + seed + ";");
            Numbers numbers = new Numbers(seed);
            for (int i = 0; i < 120; i++) {
                e.due("seed " + seed + ", night " + i, x.night(), numbers.nextNight());
            }
        }
        SnowScore x = told("seed 5;");
        Numbers numbers = new Numbers(5);
        x.night();
        numbers.nextNight();
        x.winter();
        x.hours(3);
        x.chance(9, 9, 0, 0);
        e.due("the row goes on", x.night(), numbers.nextNight());
    }

    private static void debts(Edges e) {
        SnowScore x = told(ROW + "law score 7;");
        x.winter();
        e.due("nothing", x.score(0, 1) + x.score(1, 1), 0);
        walk(x, 0, 1, 1);
        walk(x, 1, 3, 3, 3, 3, 3, 3, 3);
        e.due("scores", x.score(0, 0) * 100 + x.score(1, 0), 7 * 100);
        x.winter();
        e.due("debts", x.score(0, 1) * 100 + x.score(1, 1), 700);
        walk(x, 0, 1, 1);
        x.fox(2, 1, 1);
        x.winter();
        e.due("more by one that isn't blurred", x.score(1, 1), 7);
        walk(x, 0, 1);
        x.fall(1);
        x.winter();
        e.due("no more by one that is covered", x.score(1, 1), 7);
        // Debts have no bound of their own.
        x = told(ROW + "law score 99;");
        for (int i = 1; i <= 120; i++) {
            walk(x, 0, 1);
            x.winter();
        }
        e.due("120 winters of 99", x.score(1, 1), 120 * 99);
    }

    private static void emptyList(Edges e) {
        SnowScore x = World.made();
        x.winter();
        e.due("MARKS", x.count(7), 0);
        e.due("that aren't gone", x.count(8), 0);
        e.due("read", x.count(9), 0);
        e.due("SNOW", x.count(6), 0);
        e.due("no mark 0", x.mark(0, 0), -1);
        e.due("the HOUR stays", x.count(5), 2);
        e.due("CLAIMS stay", x.count(11), World.CLAIMS);
        e.due("by how many they are KNOWN stays", x.count(12), 2);
        walk(x, 0, 1);
        e.due("from 0 on", x.mark(0, 1), 1);
        e.due("not blurred", x.mark(0, 7), 0);
        e.due("without COVER", x.mark(0, 5), 0);
    }

    private static void homeAgain(Edges e) {
        SnowScore x = World.made();
        e.due("away", x.look(0, 0) * 10 + x.look(1, 0), 61);
        x.winter();
        e.due("at home", x.look(0, 0) * 10 + x.look(1, 0), 6);
        e.due("no steps", x.look(0, 2) + x.look(1, 2), 0);
        e.due("own boots", x.look(0, 3) * 10 + x.look(1, 3), 1);
        // v's gait is 2: its steps are counted anew.
        x = told("field 2 1;farm f 0 0 0 0;walker w f 9 2 0 0;");
        walk(x, 0, 1);
        x.winter();
        walk(x, 0, 1);
        e.due("the first step anew", x.count(7), 0);
    }

    // ---- promises 6 to 12

    private static void looks(Edges e) {
        SnowScore x = World.made();
        int[] w = {6, 0, 5, 0, 0};
        int[] v = {1, 1, 2, 0, 6};
        for (int what = 0; what < 5; what++) {
            e.due("of w, " + what, x.look(0, what), w[what]);
            e.due("of v, " + what, x.look(1, what), v[what]);
        }
        x = told("farm f 0 0 0 0;walker a f 1 1 0 0;walker b f 1 1 0 0;walker c f 1 1 0 0;walker d f 1 1 0 0;walker e f 1 1 3 0;");
        e.due("the fifth", x.look(4, 4), 3);
        e.due("no sixth", thrown(x, 5, 4), 1);
    }

    private static void noSuchWalker(Edges e) {
        e.refusedFor("walker", (x, walker) -> thrown(x, walker, 0), 1, -1, World.WALKERS, 5, Edges.FAR_LEFT, Edges.FAR_RIGHT);
        e.due("no walkers", thrown(new SnowScore(), 0, 0), 1);
        e.refused("nor such a what", x -> thrown(x, 2, 5), 1);
        e.due("the last one", thrown(World.made(), 1, 0), 0);
        SnowScore x = World.made();
        x.text(0);
        e.due("one of a text ahead", thrown(x, 0, 0), 1);
    }

    private static void noSuchLook(Edges e) {
        e.refusedFor("what", (x, what) -> thrown(x, 0, what), 2, -1, 5, Edges.FAR_LEFT, Edges.FAR_RIGHT);
        e.due("the last one", thrown(World.made(), 0, 4), 0);
    }

    private static void cells(Edges e) {
        SnowScore x = World.made();
        int[] grounds = {0, 0, 1, 1, 0, 0, 1, 1};
        int[] kinds = {0, 0, 0, 1, 2, 0, 0, 0};
        int[] marks = {0, 2, 1, 0, 0, 0, 1, 1};
        int[] read = {-1, 2, -1, -1, -1, -1, 4, 3};
        for (int cell = 0; cell < World.CELLS; cell++) {
            e.due("ground of " + cell, x.cell(cell, 0), grounds[cell]);
            e.due("kind of " + cell, x.cell(cell, 1), kinds[cell]);
            e.due("marks in " + cell, x.cell(cell, 2), marks[cell]);
            e.due("read in " + cell, x.cell(cell, 3), read[cell]);
        }
        x.thaw(12);
        e.due("gone ones don't count", x.cell(1, 2), 1);
        e.due("nobody's", new SnowScore().cell(0, 0), -1);
    }

    private static void noSuchCell(Edges e) {
        for (int what = 0; what < 4; what++) {
            int one = what;
            e.bounds("cell, what " + what, (x, cell) -> x.cell(cell, one), -2, 0, World.CELLS - 1);
        }
        e.bounds("what", (x, what) -> x.cell(1, what), -2, 0, 3);
        SnowScore x = new SnowScore();
        e.due("cell 29", x.cell(29, 1), 0);
        e.due("cell 30", x.cell(30, 1), -2);
        x = told("field 8 6;");
        e.due("cell 47", x.cell(47, 1), 0);
        e.due("cell 48", x.cell(48, 1), -2);
        x = told("field 1 1;");
        e.due("cell 0", x.cell(0, 1), 0);
        e.due("cell 1", x.cell(1, 1), -2);
    }

    private static void marks(Edges e) {
        SnowScore x = World.made();
        int[][] dues = {{0, 1, 1, 0, 18, 2, 0, 0}, {0, 2, 1, 0, 18, 2, 0, 0}, {1, 1, 0, 2, 10, 0, 1, 0},
            {0, 7, 2, 2, 20, 0, 0, 0}, {0, 6, 3, 2, 20, 0, 0, 1}};
        for (int mark = 0; mark < World.MARKS; mark++) {
            for (int what = 0; what < 8; what++) {
                e.due("of " + mark + ", " + what, x.mark(mark, what), dues[mark][what]);
            }
        }
        x.thaw(10);
        e.due("gone", x.mark(2, 4), 0);
        e.due("a gone one's cell", x.mark(2, 1), 1);
        e.due("a gone one's look", x.mark(2, 0), 1);
    }

    private static void noSuchMark(Edges e) {
        for (int what = 0; what < 8; what++) {
            int one = what;
            e.bounds("mark, what " + what, (x, mark) -> x.mark(mark, one), -1, 0, World.MARKS - 1);
        }
        e.bounds("what", (x, what) -> x.mark(0, what), -1, 0, 7);
        e.due("none at all", new SnowScore().mark(0, 0), -1);
        SnowScore x = World.made();
        x.undo();
        x.undo();
        e.due("one that was undone", x.mark(World.MARKS - 1, 0), -1);
    }

    private static void lawsOfMarks(Edges e) {
        SnowScore x = told(ROW + "law fade deep+1000;law score 0-deep;");
        walk(x, 0, 1);
        e.due("fade, unbound", x.law(0, 0), 1020);
        e.due("score, unbound", x.law(1, 0), -20);
        x.fall(1);
        e.due("under cover", x.law(1, 0), -20);
        x.fox(1, 0, 1);
        x.thaw(20);
        e.due("the last of it", x.law(1, 0), -1);
        x.thaw(1);
        e.due("gone: fade", x.law(0, 0), ERROR);
        e.due("gone: score", x.law(1, 0), ERROR);
    }

    private static void lawsOfWalkers(Edges e) {
        SnowScore x = told(ROW + "law deep 100*far+10*own+snow;");
        e.due("at home", x.law(2, 0), 10);
        e.due("v at home", x.law(2, 1), 10);
        walk(x, 0, 1, 1);
        e.due("two steps on", x.law(2, 0), 200);
        x.fall(7);
        e.due("in snow", x.law(2, 0), 207);
        x = told("field 2 1;tree 1 0;farm f 0 0 0 0;walker w f 9 1 0 0;law deep 40+far;");
        walk(x, 0, 1);
        e.due("in a tree", x.law(2, 0), 41);
        e.due("where no mark is", x.count(7), 0);
    }

    private static void lawsWithError(Edges e) {
        SnowScore x = told(ROW + "law deep 1/far;law fade 1/age;law score 1/(far-1);");
        e.due("deep at home", x.law(2, 0), ERROR);
        walk(x, 0, 1, 1);
        e.due("deep away", x.law(2, 0), 0);
        e.due("fade at once", x.law(0, 0), ERROR);
        x.hours(1);
        e.due("fade behind an hour", x.law(0, 0), 1);
        e.due("score of the first", x.law(1, 0), ERROR);
        e.due("score of the second", x.law(1, 1), 1);
    }

    private static void lawsNotTold(Edges e) {
        SnowScore x = told(ROW);
        walk(x, 0, 1);
        for (int what = 0; what < 3; what++) {
            e.due("law(" + what + ", 0)", x.law(what, 0), ERROR);
        }
        String[] kinds = {"fade", "score", "deep"};
        for (int told = 0; told < 3; told++) {
            x = told(ROW + "law " + kinds[told] + " 3;");
            walk(x, 0, 1);
            for (int what = 0; what < 3; what++) {
                e.due(kinds[told] + " alone: law(" + what + ", 0)", x.law(what, 0), what == told ? 3 : ERROR);
            }
        }
        x = told(ROW + "law deep 3;");
        tell(x, ROW);
        e.due("one of a text ahead", x.law(2, 0), ERROR);
    }

    private static void noSuchLaw(Edges e) {
        e.bounds("fade, mark", (x, mark) -> x.law(0, mark) == ERROR ? -1 : 0, -1, 0, World.MARKS - 1);
        e.bounds("score, mark", (x, mark) -> x.law(1, mark) == ERROR ? -1 : 0, -1, 0, World.MARKS - 1);
        e.bounds("deep, walker", (x, walker) -> x.law(2, walker) == ERROR ? -1 : 0, -1, 0, World.WALKERS - 1);
        e.bounds("what", (x, what) -> x.law(what, 0) == ERROR ? -1 : 0, -1, 0, 2);
    }

    private static void stepTo(Edges e) {
        SnowScore x = World.made();
        e.due("w up", x.step(0, 0), 2);
        e.due("v right", x.step(1, 1), 2);
        e.due("w right into a tree", x.step(0, 1), 3);
        e.due("where it is", x.look(0, 0), 3);
    }

    private static void stepOutside(Edges e) {
        e.refused("v up from the first row", x -> x.step(1, 0), -2);
        e.refused("w down from the last row", x -> x.step(0, 2), -2);
        SnowScore x = told("field 2 2;farm f 0 0 0 0;walker w f 9 1 0 0;walker v f 9 1 1 1;");
        e.due("up", x.step(0, 0), -2);
        e.due("left", x.step(0, 3), -2);
        e.due("right", x.step(1, 1), -2);
        e.due("down", x.step(1, 2), -2);
        e.due("nothing to undo by that", x.count(13), 0);
        e.due("no steps by that", x.look(0, 2) + x.look(1, 2), 0);
        e.due("no marks by that", x.count(7), 0);
    }

    private static void ninetyFirst(Edges e) {
        SnowScore x = withNinetyMarks("field 4 1;tree 2 0;ice 3 0;farm f 0 0 0 0;walker w f 9 1 0 0;walker v f 9 2 1 0;");
        e.due("90", x.count(7), 90);
        e.due("the 91st", x.step(0, 1), -2);
        e.due("where it was", x.look(0, 0), 0);
        e.due("steps as they were", x.look(0, 2), 90);
        e.due("to undo as it was", x.count(13), 20);
        e.due("a step that leaves none", x.step(1, 3), 0);
        e.due("one that would", x.step(1, 1), -2);
        e.due("its steps as they were", x.look(1, 2), 1);
        x.undo();
        e.due("into a tree", x.step(1, 1), 2);
        e.due("onto ice", x.step(1, 1), 3);
        e.due("outside all the same", x.step(1, 1), -2);
        e.due("90 still", x.count(7), 90);
    }

    private static void noSuchStep(Edges e) {
        e.refusedFor("walker", (x, walker) -> x.step(walker, 3), -1, -1, World.WALKERS, Edges.FAR_LEFT, Edges.FAR_RIGHT);
        e.refusedFor("way", (x, way) -> x.step(0, way), -1, -1, 4, 5, Edges.FAR_LEFT, Edges.FAR_RIGHT);
        e.refusedFor("way outside", (x, way) -> x.step(1, way), -1, -4, 4, 8);
        e.due("no walkers", new SnowScore().step(0, 0), -1);
    }

    private static void bootsFromNowOn(Edges e) {
        SnowScore x = told(ROW);
        walk(x, 0, 1);
        e.due("another one's", x.boots(0, 1), true);
        e.due("whose", x.look(0, 3), 1);
        e.due("the mark ahead stays", x.mark(0, 0), 0);
        walk(x, 0, 1);
        e.due("from now on", x.mark(1, 0), 1);
        e.due("that one's own boots stay", x.look(1, 3), 1);
        e.due("both may have the other's", x.boots(1, 0), true);
        e.due("own ones again", x.boots(0, 0), true);
        e.due("whose now", x.look(0, 3), 0);
    }

    private static void noSuchBoots(Edges e) {
        e.refusedFor("walker", (x, walker) -> x.boots(walker, 0) ? 1 : 0, 0, -1, World.WALKERS, Edges.FAR_LEFT, Edges.FAR_RIGHT);
        e.refusedFor("whose", (x, whose) -> x.boots(0, whose) ? 1 : 0, 0, -1, World.WALKERS, Edges.FAR_LEFT, Edges.FAR_RIGHT);
        e.refused("it is so: own ones", x -> x.boots(0, 0) ? 1 : 0, 0);
        e.refused("it is so: another one's", x -> x.boots(1, 0) ? 1 : 0, 0);
        e.due("no walkers", new SnowScore().boots(0, 0), false);
    }

    private static void reachOfFoxes(Edges e) {
        int[] dues = {1, 2, 3, 4, 5, 6, 7, 8};
        for (int n = 1; n <= 8; n++) {
            SnowScore x = told("field 8 1;farm f 0 0 7 0;walker w f 9 1 0 0;");
            walk(x, 0, 1, 1, 1, 1, 1, 1, 1, 3, 3, 3, 3, 3, 3, 3);
            e.due("over " + n, x.fox(0, 1, n), dues[n - 1]);
        }
        e.refusedFor("n", (x, n) -> x.fox(6, 1, n), -1, 0, -1, 9, 10, Edges.FAR_LEFT, Edges.FAR_RIGHT);
    }

    private static void blurredThatWereNot(Edges e) {
        SnowScore x = told(ROW);
        walk(x, 0, 1, 1, 1);
        e.due("the second", x.fox(2, 0, 1), 1);
        e.due("the other two", x.fox(0, 1, 8), 2);
        e.due("none", x.fox(0, 1, 8), 0);
        e.due("no marks there", x.fox(5, 1, 3), 0);
        e.refused("one blurred already", y -> y.fox(6, 3, 1), 0);
        e.refused("none there", y -> y.fox(2, 0, 1), 0);
    }

    private static void noSuchFox(Edges e) {
        e.refusedFor("cell", (x, cell) -> x.fox(cell, 1, 1), -1, -1, World.CELLS, Edges.FAR_LEFT, Edges.FAR_RIGHT);
        e.refusedFor("way", (x, way) -> x.fox(7, way, 1), -1, -1, 4, Edges.FAR_LEFT, Edges.FAR_RIGHT);
        e.due("the last cell", World.made().fox(7, 3, 1), 1);
        e.due("no walkers, but cells", new SnowScore().fox(29, 0, 8), 0);
        e.due("no such cell", new SnowScore().fox(30, 0, 8), -1);
    }

    // ---- promises 13 to 20

    private static void hoursGoBy(Edges e) {
        SnowScore x = told(ROW + "law fade 1;");
        walk(x, 0, 1);
        e.due("0", x.hours(0), 0);
        e.due("nothing fades", x.mark(0, 4), 20);
        e.due("it can be undone", x.count(13), 1);
        e.due("1", x.hours(1), 1);
        e.due("one hour's fading", x.mark(0, 4), 19);
        e.due("18", x.hours(18), 19);
        e.due("the last of it", x.mark(0, 4), 1);
        e.due("99", x.hours(99), 118);
        e.due("gone", x.mark(0, 4), 0);
        e.asks("hours(0)", y -> y.hours(0));
    }

    private static void noSuchHours(Edges e) {
        e.bounds("hours", (x, n) -> x.hours(n), -1, 0, 99);
    }

    private static SnowScore atHour(int hour, String text) {
        SnowScore x = told(text);
        int left = hour;
        while (left > 0) {
            int n = Math.min(99, left);
            x.hours(n);
            left -= n;
        }
        return x;
    }

    private static void hoursBehindTheLast(Edges e) {
        SnowScore x = atHour(9999 - 99, ROW + "law fade 1;");
        walk(x, 0, 1);
        e.due("99 to 9999", x.hours(99), 9999);
        e.due("one more", x.hours(1), -1);
        e.due("99 more", x.hours(99), -1);
        e.due("0 more", x.hours(0), 9999);
        x = atHour(9999 - 98, ROW + "law fade 1;");
        walk(x, 0, 1);
        e.due("99 of 98", x.hours(99), -1);
        e.due("none does", x.count(5), 9901);
        e.due("nothing fades", x.mark(0, 4), 20);
        e.due("it can be undone still", x.count(13), 1);
        e.due("98 of 98", x.hours(98), 9999);
        x.winter();
        e.due("a winter's end gives none", x.hours(1), -1);
        walk(x, 0, 1);
        e.due("a mark of the last hour", x.mark(0, 3), 9999);
        e.due("a text begins with 0", tell(x, ROW) + x.hours(0), 5);
        e.due("and goes on", x.hours(1), 1);
    }

    private static void falls(Edges e) {
        SnowScore x = new SnowScore();
        e.due("1", x.fall(1), 1);
        e.due("99", x.fall(99), 100);
        for (int i = 0; i < 110; i++) {
            x.fall(99);
        }
        e.due("at most", x.fall(50), 9999);
    }

    private static void noSuchFall(Edges e) {
        e.bounds("fall", (x, n) -> x.fall(n), -1, 1, 99);
    }

    private static void goneByThaw(Edges e) {
        SnowScore x = told(ROW);
        e.due("no marks", x.thaw(99), 0);
        walk(x, 0, 1, 1);
        walk(x, 1, 3);
        e.due("9 of 10", x.thaw(9), 0);
        e.due("10 of 10", x.thaw(1), 1);
        e.due("it counts once", x.thaw(1), 0);
        x.fall(5);
        e.due("under cover", x.thaw(5), 0);
        e.due("both others", x.thaw(99), 2);
        e.due("none is left", x.thaw(99), 0);
    }

    private static void noSuchThaw(Edges e) {
        e.bounds("thaw", (x, n) -> x.thaw(n), -1, 1, 99);
    }

    private static void nightAnswers(Edges e) {
        e.due("fell", told("seed " + seedOf(9) + ";").night(), 9);
        e.due("thawed, where no snow is", told("seed " + seedOf(-5) + ";").night(), -5);
        e.due("neither", told("seed " + seedOf(0) + ";").night(), 0);
    }

    private static void nightBehindTheLast(Edges e) {
        SnowScore x = atHour(9998, ROW + "law fade 1;seed 3;");
        walk(x, 0, 1);
        x.keep();
        Numbers numbers = new Numbers(3);
        e.due("the last night", x.night(), numbers.nextNight());
        e.due("to 9999", x.count(5), 9999);
        int snow = x.count(6);
        walk(x, 0, 1);
        for (int i = 0; i < 5; i++) {
            e.due("behind it", x.night(), -100);
        }
        e.due("the hour", x.count(5), 9999);
        e.due("the snow", x.count(6), snow);
        e.due("it can be undone still", x.count(13), 1);
        // An hour ahead again, the numbers go on as if nothing had been asked.
        e.due("back", x.back(), 9998);
        e.due("the same last night", x.night(), Numbers.night(3));
        e.due("behind it again", x.night(), -100);
    }

    private static void wintersEnded(Edges e) {
        SnowScore x = new SnowScore();
        for (int i = 1; i <= 200; i++) {
            e.due("winter " + i, x.winter(), i);
        }
        e.due("count(10)", x.count(10), 200);
        x.text(0);
        e.due("behind a text", x.winter(), 1);
    }

    private static void whoseIsRead(Edges e) {
        SnowScore x = World.made();
        e.due("v's", x.read(1), 1);
        e.due("w's", x.read(7), 0);
        x.thaw(10);
        e.due("w's below v's that is gone", x.read(1), 0);
        walk(x, 1, 3, 1);
        e.due("v's, that looks as w's", x.read(1), 0);
        e.due("it is v's", x.mark(x.cell(1, 3), 6), 1);
    }

    private static void noneIsRead(Edges e) {
        SnowScore x = World.made();
        e.due("never walked", x.read(5), -2);
        e.due("covered", x.read(2), -2);
        e.due("a tree", x.read(3), -2);
        e.due("ice", x.read(4), -2);
        x.thaw(99);
        e.due("gone", x.read(1), -2);
    }

    private static void blurredIsRead(Edges e) {
        SnowScore x = World.made();
        e.due("blurred", x.read(6), -3);
        x.fall(1);
        e.due("blurred and covered", x.read(6), -2);
        x.thaw(1);
        e.due("bare again", x.read(6), -3);
        x.thaw(20);
        e.due("gone", x.read(6), -2);
        walk(x, 0, 0, 2);
        e.due("a new one upon it", x.read(6), 0);
    }

    private static void noSuchReading(Edges e) {
        e.bounds("read", (x, cell) -> x.read(cell), -1, 0, World.CELLS - 1);
        e.due("cell 30 of a new object", new SnowScore().read(30), -1);
        e.due("cell 29 of a new object", new SnowScore().read(29), -2);
    }

    private static void scoreAndDebt(Edges e) {
        SnowScore x = World.made();
        // v's mark in cell 1 is f's to score, w's in 7 is g's; the one in 6 is blurred.
        e.due("score of f", x.score(0, 0), 1);
        e.due("score of g", x.score(1, 0), 1);
        e.due("debt of f", x.score(0, 1), 0);
        e.due("debt of g", x.score(1, 1), 1);
        x.winter();
        e.due("score of f behind", x.score(0, 0), 0);
        e.due("debt of f behind", x.score(0, 1), 1);
        e.due("debt of g behind", x.score(1, 1), 2);
    }

    private static void noSuchScore(Edges e) {
        e.bounds("farm, score", (x, farm) -> x.score(farm, 0), -1, 0, World.FARMS - 1);
        e.bounds("farm, debt", (x, farm) -> x.score(farm, 1), -1, 0, World.FARMS - 1);
        e.bounds("what", (x, what) -> x.score(0, what), -1, 0, 1);
        e.due("no farms", new SnowScore().score(0, 0), -1);
        SnowScore x = told("farm a 0 0 0 0;farm b 0 0 0 0;farm c 0 0 0 0;");
        e.due("the third", x.score(2, 1), 0);
        e.due("no fourth", x.score(3, 1), -1);
    }

    private static void greatestSum(Edges e) {
        String three = "field 3 1;farm a 0 0 0 0;farm b 1 0 1 0;farm c 2 0 2 0;walker w a 60 1 0 0;walker v c 60 1 2 0;";
        SnowScore x = told(three);
        e.due("all alike", x.ahead(), 0);
        walk(x, 0, 1);
        e.due("the second", x.ahead(), 1);
        walk(x, 0, 1);
        e.due("the second and the third alike", x.ahead(), 1);
        x.winter();
        e.due("by debts", x.ahead(), 1);
        walk(x, 0, 1, 1);
        x.fox(1, 0, 1);
        e.due("the third, by its score", x.ahead(), 2);
        x.winter();
        walk(x, 1, 3, 3);
        e.due("debts 0 1 2, scores 1 1 0: the second", x.ahead(), 1);
        x.winter();
        e.due("debts 1 2 2", x.ahead(), 1);
    }

    private static void noFarms(Edges e) {
        e.due("a new object", new SnowScore().ahead(), -1);
        e.due("a text without", told("seed 1;").ahead(), -1);
        e.due("one farm", told("farm f 0 0 0 0;").ahead(), 0);
        SnowScore x = World.made();
        x.text(0);
        e.due("behind a text with some", x.ahead(), -1);
    }
}
