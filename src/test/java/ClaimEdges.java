import java.util.ArrayList;
import java.util.List;

/** The sentences on claims, forgeries, trails and quiet ways: of the third part of the terms, promises 21 to 30. */
final class ClaimEdges extends Telling {
    /** One row; f has the left end, g the rest; both walkers step by one. */
    private static final String ROW = "field 8 1;farm f 0 0 0 0;farm g 1 0 7 0;walker w f 20 1 0 0;walker v g 10 1 7 0;";

    private ClaimEdges() {
    }

    static void run(Edges e) {
        claims(e);
        marks(e);
        ways(e);
    }

    private static void claims(Edges e) {
        e.sentence("T3", "CLAIMS, at most 24,", ClaimEdges::atMost24);
        e.sentence("T3", "numbered from 0 on:", ClaimEdges::numberedFrom0);
        e.sentence("T3", "in a CELL a MARK of a WALKER (LOOKS) is READ,", ClaimEdges::readByLooks);
        e.sentence("T3", "of an HOUR from one to another.", ClaimEdges::fromOneToAnother);
        e.sentence("T3", "A STRIKE of one.", ClaimEdges::strikeOfOne);
        e.sentence("T3", "KNOWN by n (all at first):", ClaimEdges::allAtFirst);
        e.sentence("T3", "the first n that aren't STRUCK by one of these", ClaimEdges::struckByOneOfThese);
        e.sentence("T3", "(a STRIKE may be STRUCK: then it doesn't count; asked from the last one on).",
            ClaimEdges::struckStrikes);
        e.sentence("T3", "JUDGED: the first KNOWN one that isn't so", ClaimEdges::firstThatIsNotSo);
        e.sentence("T3", "(BLURRED ones aren't READ as anybody's).", ClaimEdges::blurredAsNobodys);
        e.sentence("21", "A CLAIM (HOURS 0 .. 9999, the first not above the second): its number;", ClaimEdges::hoursOfClaims);
        e.sentence("21", "NONE: no such ones,", ClaimEdges::noSuchClaim);
        e.sentence("21", "or there are 24.", ClaimEdges::fullOfClaims);
        e.sentence("22", "A STRIKE: its number;", ClaimEdges::strikeNumbers);
        e.sentence("22", "NONE: no such CLAIM,", ClaimEdges::noSuchStrike);
        e.sentence("22", "or there are 24.", ClaimEdges::fullOfStrikes);
        e.sentence("23", "KNOWN by n from now on", ClaimEdges::knownFromNowOn);
        e.sentence("23", "(-1: by all, also those to come): true;", ClaimEdges::thoseToCome);
        e.sentence("23", "false: no such n.", ClaimEdges::noSuchKnown);
        e.sentence("24", "JUDGED;", ClaimEdges::judgedOfWorld);
        e.sentence("24", "NONE: all are so.", ClaimEdges::allAreSo);
    }

    private static void marks(Edges e) {
        e.sentence("T3", "A MARK CLOSES, if within GAIT steps (x and y; of whom it LOOKS) of its CELL there is",
            ClaimEdges::withinGait);
        e.sentence("T3", "that one's HOME,", ClaimEdges::closedByHome);
        e.sentence("T3", "a TREE, ICE,", ClaimEdges::closedByTreeOrIce);
        e.sentence("T3", "or a MARK of a lesser number, not GONE, that LOOKS alike.", ClaimEdges::closedByMark);
        e.sentence("T3", "FORGED: MARKS READ anywhere, not BLURRED, that don't.", ClaimEdges::readAnywhere);
        e.sentence("T3", "TRAIL of a MARK: that one, then the one of the greatest number below it,",
            ClaimEdges::greatestNumberBelow);
        e.sentence("T3", "not GONE, that LOOKS alike within GAIT steps of it, and so on.", ClaimEdges::andSoOn);
        e.sentence("25", "How many are FORGED.", ClaimEdges::howManyForged);
        e.sentence("26", "The k-th (by numbers): its MARK;", ClaimEdges::forgeriesByNumbers);
        e.sentence("26", "-2: there are no so many;", ClaimEdges::noSoManyForgeries);
        e.sentence("26", "NONE: k is below 0.", ClaimEdges::forgeryBelow0);
        e.sentence("27", "How many MARKS a TRAIL has;", ClaimEdges::lengthOfTrails);
        e.sentence("27", "NONE: no such MARK, GONE.", ClaimEdges::noSuchTrail);
        e.sentence("28", "The k-th of them (0 that MARK itself);", ClaimEdges::itselfFirst);
        e.sentence("28", "-2: there are no so many;", ClaimEdges::noSoManyTrailed);
        e.sentence("28", "NONE: no such ones, GONE.", ClaimEdges::noSuchTrailed);
    }

    private static void ways(Edges e) {
        e.sentence("T3", "QUIET from a CELL to another one by CELLS beside one another:", ClaimEdges::besideOneAnother);
        e.sentence("T3", "NEW: CELLS on it (not the first) that are no TREE, no ICE and in which none is READ;",
            ClaimEdges::newCells);
        e.sentence("T3", "the fewest NEW, of several the fewest STEPS, of several the first by 0 to 3, STEP by STEP.",
            ClaimEdges::fewestAndFirst);
        e.sentence("29", "QUIET, what 0: NEW, 1: STEPS.", ClaimEdges::newAndSteps);
        e.sentence("29", "NONE: no such ones.", ClaimEdges::noSuchQuiet);
        e.sentence("30", "The k-th CELL of it (0 the first);", ClaimEdges::firstOfWay);
        e.sentence("30", "-2: there are no so many;", ClaimEdges::noSoManyHushed);
        e.sentence("30", "NONE: no such ones.", ClaimEdges::noSuchHushed);
    }

    // ---- claims

    private static void atMost24(Edges e) {
        SnowScore x = told(ROW);
        for (int i = 0; i < 24; i++) {
            e.due("claim " + i, x.claim(0, 0, 0, 0), i);
        }
        e.due("a 25th", x.claim(0, 0, 0, 0), -1);
        e.due("24", x.count(11), 24);
        e.due("the last one counts", x.strike(0), -1);
        for (int i = 0; i < 24; i++) {
            e.due("known by " + i, x.known(i), true);
            e.due("judged by " + i, x.judged(), i == 0 ? -1 : 0);
        }
        e.due("known by 24", x.known(24), true);
        e.due("known by 25", x.known(25), false);
        tell(x, ROW);
        e.due("room in another text", x.claim(0, 0, 0, 0), 0);
    }

    private static void numberedFrom0(Edges e) {
        SnowScore x = told(ROW);
        e.due("the first", x.claim(0, 0, 0, 0), 0);
        e.due("a strike goes along", x.strike(0), 1);
        e.due("the third", x.claim(0, 0, 0, 0), 2);
        x.winter();
        e.due("on behind a winter", x.claim(0, 0, 0, 0), 3);
        x.keep();
        x.claim(0, 0, 0, 0);
        x.back();
        e.due("on behind an image", x.claim(0, 0, 0, 0), 5);
        tell(x, ROW);
        e.due("from 0 on behind a text", x.claim(0, 0, 0, 0), 0);
    }

    private static void readByLooks(Edges e) {
        SnowScore x = told(ROW);
        x.claim(1, 1, 0, 9);
        e.due("none is read", x.judged(), 0);
        x.boots(0, 1);
        walk(x, 0, 1);
        e.due("as v's", x.judged(), -1);
        x.claim(1, 0, 0, 9);
        e.due("not as w's, whose it is", x.judged(), 1);
        x.known(1);
        x.fall(1);
        e.due("not under snow", x.judged(), 0);
        x.thaw(1);
        e.due("bare", x.judged(), -1);
        x.boots(0, 0);
        walk(x, 0, 3, 1);
        e.due("not below another one", x.judged(), 0);
        x.undo();
        x.undo();
        e.due("again", x.judged(), -1);
        x.thaw(20);
        e.due("not a gone one", x.judged(), 0);
        x = told(ROW);
        walk(x, 0, 1);
        x.claim(2, 0, 0, 9);
        e.due("not in the cell beside", x.judged(), 0);
    }

    private static void fromOneToAnother(Edges e) {
        int[][] spans = {{5, 5}, {0, 5}, {5, 9999}, {4, 6}, {0, 9999}, {0, 4}, {4, 4}, {6, 6}, {6, 9999}, {0, 0}, {9999, 9999}};
        int[] dues = {-1, -1, -1, -1, -1, 0, 0, 0, 0, 0, 0};
        for (int i = 0; i < spans.length; i++) {
            SnowScore x = told(ROW);
            x.hours(5);
            walk(x, 0, 1);
            x.hours(3);
            x.claim(1, 0, spans[i][0], spans[i][1]);
            e.due("from " + spans[i][0] + " to " + spans[i][1], x.judged(), dues[i]);
        }
        SnowScore x = told(ROW);
        walk(x, 0, 1);
        x.claim(1, 0, 0, 0);
        e.due("of HOUR 0", x.judged(), -1);
    }

    private static void strikeOfOne(Edges e) {
        SnowScore x = told(ROW);
        for (int i = 0; i < 3; i++) {
            x.claim(i, 0, 0, 0);
        }
        e.due("none struck", x.judged(), 0);
        x.strike(1);
        e.due("that one alone", x.judged(), 0);
        x.strike(0);
        e.due("two struck", x.judged(), 2);
        x.strike(2);
        e.due("all struck", x.judged(), -1);
        x.claim(5, 0, 0, 0);
        e.due("one more isn't", x.judged(), 6);
    }

    private static void allAtFirst(Edges e) {
        SnowScore x = told(ROW);
        e.due("none", x.count(12), 0);
        x.claim(1, 0, 0, 0);
        e.due("one", x.count(12), 1);
        e.due("it is judged", x.judged(), 0);
        x.strike(0);
        e.due("the strike, too", x.count(12), 2);
        e.due("it is struck", x.judged(), -1);
    }

    private static void struckByOneOfThese(Edges e) {
        SnowScore x = told(ROW);
        x.claim(1, 0, 0, 0);
        x.claim(2, 0, 0, 0);
        x.strike(0);
        x.strike(1);
        int[] dues = {-1, 0, 0, 1, -1};
        for (int n = 0; n <= 4; n++) {
            e.due("known(" + n + ")", x.known(n), true);
            e.due("by " + n, x.judged(), dues[n]);
        }
        x.known(-1);
        e.due("by all", x.judged(), -1);
    }

    private static void struckStrikes(Edges e) {
        SnowScore x = told(ROW);
        x.claim(1, 0, 0, 0);
        x.strike(0);
        // Each strikes the one ahead of it: 0 is struck where their number is odd.
        for (int i = 1; i < 23; i++) {
            e.due("strikes " + i, x.judged(), i % 2 == 1 ? -1 : 0);
            e.due("strike " + (i + 1), x.strike(i), i + 1);
        }
        for (int n = 24; n >= 1; n--) {
            x.known(n);
            e.due("known by " + n, x.judged(), n % 2 == 0 ? -1 : 0);
        }
        // Two strikes of one: it takes two to bring it back.
        x = told(ROW);
        x.claim(1, 0, 0, 0);
        x.strike(0);
        x.strike(0);
        x.strike(1);
        e.due("struck by the other still", x.judged(), -1);
        x.strike(2);
        e.due("by none", x.judged(), 0);
        // The last one is asked first: 3 strikes 1, and 4 strikes 3.
        x = told(ROW);
        x.claim(1, 0, 0, 0);
        x.strike(0);
        x.claim(2, 0, 0, 0);
        x.strike(1);
        e.due("1 doesn't count", x.judged(), 0);
        x.strike(3);
        e.due("3 doesn't count, 1 does", x.judged(), 2);
    }

    private static void firstThatIsNotSo(Edges e) {
        SnowScore x = told(ROW);
        walk(x, 0, 1);
        x.claim(1, 0, 0, 0);
        e.due("the first is so", x.judged(), -1);
        x.claim(2, 0, 0, 0);
        x.claim(3, 0, 0, 0);
        e.due("the first of two", x.judged(), 1);
        x.known(1);
        e.due("not known", x.judged(), -1);
        x.known(3);
        walk(x, 0, 1);
        e.due("the second is so now", x.judged(), 2);
        walk(x, 0, 1);
        e.due("all are so now", x.judged(), -1);
        x.winter();
        e.due("none is behind a winter", x.judged(), 0);
    }

    private static void blurredAsNobodys(Edges e) {
        SnowScore x = told(ROW);
        walk(x, 0, 1);
        x.claim(1, 0, 0, 0);
        x.fox(1, 0, 1);
        e.due("blurred", x.judged(), 0);
        x.undo();
        e.due("not any more", x.judged(), -1);
        // One below isn't read in its place.
        walk(x, 0, 3, 1);
        x.fox(1, 0, 1);
        e.due("one below", x.judged(), 0);
    }

    private static void hoursOfClaims(Edges e) {
        e.due("0 to 0", World.made().claim(0, 0, 0, 0), World.CLAIMS);
        e.due("0 to 9999", World.made().claim(0, 0, 0, 9999), World.CLAIMS);
        e.due("9999 to 9999", World.made().claim(0, 0, 9999, 9999), World.CLAIMS);
        e.refused("1 to 0", x -> x.claim(0, 0, 1, 0), -1);
        e.refused("9999 to 9998", x -> x.claim(0, 0, 9999, 9998), -1);
        e.refused("-1 to 0", x -> x.claim(0, 0, -1, 0), -1);
        e.refused("0 to 10000", x -> x.claim(0, 0, 0, 10000), -1);
        e.refused("10000 to 10000", x -> x.claim(0, 0, 10000, 10000), -1);
        e.refused("-2 to -1", x -> x.claim(0, 0, -2, -1), -1);
        e.bounds("from", (x, from) -> x.claim(0, 0, from, 9999), -1, 0, 9999);
        e.bounds("to", (x, to) -> x.claim(0, 0, 0, to), -1, 0, 9999);
    }

    private static void noSuchClaim(Edges e) {
        e.bounds("cell", (x, cell) -> x.claim(cell, 0, 0, 0), -1, 0, World.CELLS - 1);
        e.bounds("walker", (x, walker) -> x.claim(0, walker, 0, 0), -1, 0, World.WALKERS - 1);
        e.due("no walkers", new SnowScore().claim(0, 0, 0, 0), -1);
        e.due("in a tree", World.made().claim(3, 0, 0, 0), World.CLAIMS);
    }

    private static void fullOfClaims(Edges e) {
        SnowScore x = told(ROW);
        for (int i = 0; i < 12; i++) {
            x.claim(1, 0, 0, 0);
            x.strike(2 * i);
        }
        e.due("24 with the strikes", x.count(11), 24);
        e.due("a claim more", x.claim(1, 0, 0, 0), -1);
        e.due("24 still", x.count(11), 24);
        e.due("as they were", x.judged(), -1);
        x.winter();
        e.due("a winter makes no room", x.claim(1, 0, 0, 0), -1);
    }

    private static void strikeNumbers(Edges e) {
        SnowScore x = told(ROW);
        x.claim(1, 0, 0, 0);
        e.due("of a claim", x.strike(0), 1);
        e.due("of a strike", x.strike(1), 2);
        e.due("of that", x.strike(2), 3);
        e.due("of the first again", x.strike(0), 4);
        x.known(0);
        e.due("of one that isn't known", x.strike(0), 5);
    }

    private static void noSuchStrike(Edges e) {
        e.bounds("strike", SnowScore::strike, -1, 0, World.CLAIMS - 1);
        e.due("no claims", told(ROW).strike(0), -1);
        SnowScore x = told(ROW);
        x.claim(0, 0, 0, 0);
        e.due("itself", x.strike(1), -1);
        x.text(0);
        e.due("one of a text ahead", x.strike(0), -1);
    }

    private static void fullOfStrikes(Edges e) {
        SnowScore x = told(ROW);
        x.claim(1, 0, 0, 0);
        for (int i = 1; i < 24; i++) {
            e.due("strike " + i, x.strike(0), i);
        }
        e.due("a strike more", x.strike(0), -1);
        e.due("a strike of the last more", x.strike(23), -1);
        e.due("24 still", x.count(11), 24);
        e.due("struck as it was", x.judged(), -1);
    }

    private static void knownFromNowOn(Edges e) {
        SnowScore x = World.made();
        e.due("by 2", x.judged(), 1);
        for (int n = 0; n <= World.CLAIMS; n++) {
            e.due("known(" + n + ")", x.known(n), true);
            e.due("count(12)", x.count(12), n);
        }
        e.due("by 3: the strike is known", x.judged(), -1);
        x.claim(0, 0, 0, 0);
        e.due("by 3 still", x.count(12), 3);
        e.due("a fourth isn't known", x.judged(), -1);
        e.due("the same again", x.known(3), true);
        x.known(0);
        e.due("by none", x.judged(), -1);
        e.due("none at all", told(ROW).known(0), true);
    }

    private static void thoseToCome(Edges e) {
        SnowScore x = World.made();
        e.due("by all", x.known(-1), true);
        e.due("three", x.count(12), 3);
        e.due("all are so", x.judged(), -1);
        x.claim(0, 0, 0, 0);
        e.due("four", x.count(12), 4);
        e.due("the fourth isn't so", x.judged(), 3);
        e.due("without any", told(ROW).known(-1), true);
    }

    private static void noSuchKnown(Edges e) {
        e.bounds("known", (x, n) -> x.known(n) ? 1 : 0, 0, -1, World.CLAIMS);
        SnowScore x = told(ROW);
        e.due("one of none", x.known(1), false);
        e.due("-2 of none", x.known(-2), false);
        x.claim(0, 0, 0, 0);
        e.due("one of one", x.known(1), true);
    }

    private static void judgedOfWorld(Edges e) {
        e.due("the second isn't read", World.made().judged(), 1);
        e.asks("judged", x -> x.judged());
    }

    private static void allAreSo(Edges e) {
        e.due("a new object", new SnowScore().judged(), -1);
        SnowScore x = told(ROW);
        walk(x, 0, 1, 1);
        x.claim(1, 0, 0, 9);
        x.claim(2, 0, 0, 9);
        e.due("two that are so", x.judged(), -1);
        x.strike(0);
        x.strike(1);
        e.due("two that are struck", x.judged(), -1);
        x.claim(4, 0, 0, 9);
        x.known(0);
        e.due("none is known", x.judged(), -1);
    }

    // ---- forgeries

    /**
     * How many are forged where v leaves one mark at 6, 5 in the boots of w, who has this gait and this home.
     * What else is told comes ahead.
     */
    private static int forgedBy(int gait, String home, String told) {
        SnowScore x = told("field 8 6;" + told + "farm f 0 0 0 0;walker w f 9 " + gait + " " + home + ";walker v f 9 1 7 5;");
        x.boots(1, 0);
        walk(x, 1, 3);
        return x.forged();
    }

    private static void withinGait(Edges e) {
        String[] near = {"6 4", "5 4", "4 4"};
        String[] off = {"5 4", "4 4", "3 4"};
        for (int gait = 1; gait <= 3; gait++) {
            e.due("a gait of " + gait, forgedBy(gait, "0 0", "tree " + near[gait - 1] + ";"), 0);
            e.due("one step off a gait of " + gait, forgedBy(gait, "0 0", "tree " + off[gait - 1] + ";"), 1);
        }
        // Of whom it looks, not of whose it is.
        SnowScore x = told("field 8 1;tree 3 0;farm f 0 0 0 0;walker w f 9 1 0 0;walker v f 9 2 7 0;");
        x.boots(1, 0);
        walk(x, 1, 3, 3);
        e.due("two steps from a tree by w's gait of 1", x.forged(), 1);
        x = told("field 8 1;farm f 0 0 0 0;walker w f 9 3 0 0;walker v f 9 1 7 0;");
        x.boots(1, 0);
        walk(x, 1, 3, 3, 3, 3);
        e.due("at 6 alone: 3 is near home", x.forged() * 10 + x.forgery(0), 10);
    }

    private static void closedByHome(Edges e) {
        e.due("on it", forgedBy(1, "6 5", ""), 0);
        e.due("beside it", forgedBy(1, "6 4", ""), 0);
        e.due("two off", forgedBy(1, "5 4", ""), 1);
        e.due("two off a gait of 2", forgedBy(2, "5 4", ""), 0);
        e.due("three off a gait of 2", forgedBy(2, "6 2", ""), 1);
        e.due("three off a gait of 3", forgedBy(3, "6 2", ""), 0);
        e.due("four off a gait of 3", forgedBy(3, "2 5", ""), 1);
        e.due("v's home, beside it, is none of w's", forgedBy(3, "0 0", ""), 1);
    }

    private static void closedByTreeOrIce(Edges e) {
        for (String kind : new String[] {"tree ", "ice "}) {
            e.due(kind + "beside, left", forgedBy(1, "0 0", kind + "5 5;"), 0);
            e.due(kind + "beside, above", forgedBy(1, "0 0", kind + "6 4;"), 0);
            e.due(kind + "beside, right", forgedBy(1, "0 0", kind + "7 5;"), 0);
            e.due(kind + "across", forgedBy(1, "0 0", kind + "7 4;"), 1);
            e.due(kind + "across, a gait of 2", forgedBy(2, "0 0", kind + "7 4;"), 0);
            e.due(kind + "two off", forgedBy(1, "0 0", kind + "4 5;"), 1);
            e.due(kind + "far off", forgedBy(3, "0 0", kind + "0 0;"), 1);
        }
        e.due("none at all", forgedBy(1, "0 0", ""), 1);
        // In the first cell of all, and in the last one.
        for (String kind : new String[] {"tree ", "ice "}) {
            for (String end : new String[] {"0 0", "7 0"}) {
                SnowScore x = told("field 8 1;" + kind + end + ";farm f 0 0 0 0;walker w f 9 1 4 0;walker v f 9 1 "
                    + (end.equals("0 0") ? "2 0;" : "5 0;"));
                x.boots(1, 0);
                walk(x, 1, end.equals("0 0") ? 3 : 1);
                e.due(kind + "in " + end, x.forged(), 0);
            }
        }
    }

    private static void closedByMark(Edges e) {
        for (int gait = 1; gait <= 3; gait++) {
            for (int apart = 1; apart <= 4; apart++) {
                SnowScore x = told("field 8 6;farm f 0 0 0 0;walker w f 9 " + gait + " 0 0;walker v f 9 1 7 5;");
                x.boots(1, 0);
                walk(x, 1, 3);
                x.boots(1, 1);
                for (int i = 1; i < apart; i++) {
                    walk(x, 1, 0);
                }
                x.boots(1, 0);
                walk(x, 1, 0);
                // The marks between look as v's and close by one another, but for the first, if two off v's home.
                int ofV = apart > 1 ? 1 : 0;
                e.due("a gait of " + gait + ", " + apart + " apart", x.forged(), 1 + ofV + (apart > gait ? 1 : 0));
                e.due("the first one isn't closed by a later one", x.forgery(0), 0);
            }
        }
        String three = "field 8 1;farm f 0 0 0 0;walker w f 9 1 0 0;walker v f 9 1 7 0;walker u f 5 1 7 0;";
        SnowScore x = told(three);
        x.boots(1, 0);
        x.boots(2, 0);
        walk(x, 2, 3);
        walk(x, 1, 3, 3);
        e.due("u's at 6, v's upon it and at 5", x.forged(), 0);
        x = told(three);
        x.boots(1, 0);
        x.boots(2, 0);
        walk(x, 2, 3);
        walk(x, 1, 3);
        e.due("in the same cell", x.forged(), 0);
        x.fall(1);
        x.thaw(1);
        x.thaw(5);
        e.due("the lesser one is gone", x.forged(), 1);
        // Covered and blurred ones close, too.
        x = told(three);
        x.boots(1, 0);
        walk(x, 1, 3);
        x.fox(6, 0, 1);
        x.fall(4);
        walk(x, 1, 3);
        e.due("a covered, blurred one", x.forged(), 0);
        x = told(three);
        walk(x, 1, 3);
        x.boots(1, 0);
        walk(x, 1, 3);
        e.due("one that looks as another's", x.forged(), 1);
    }

    private static void readAnywhere(Edges e) {
        SnowScore x = told("field 8 1;farm f 0 0 0 0;walker w f 9 1 0 0;walker v f 9 1 7 0;");
        x.boots(1, 0);
        walk(x, 1, 3);
        e.due("on nobody's ground", x.forged(), 1);
        x.fox(6, 0, 1);
        e.due("blurred", x.forged(), 0);
        x.undo();
        x.fall(1);
        e.due("covered", x.forged(), 0);
        x.thaw(1);
        e.due("bare", x.forged(), 1);
        x.boots(1, 1);
        walk(x, 1, 1, 3);
        e.due("below another one", x.forged(), 0);
        x.undo();
        x.undo();
        e.due("not below any more", x.forged(), 1);
        x.thaw(9);
        e.due("gone", x.forged(), 0);
        x = told("field 8 1;farm f 0 0 7 0;walker w f 9 1 0 0;walker v f 9 1 7 0;");
        x.boots(1, 0);
        walk(x, 1, 3);
        e.due("on their own ground", x.forged(), 1);
    }

    private static SnowScore forgers() {
        SnowScore x = told(ROW);
        walk(x, 1, 3);
        x.boots(1, 0);
        walk(x, 1, 3, 3);
        x.boots(1, 1);
        walk(x, 1, 3);
        return x;
    }

    private static void howManyForged(Edges e) {
        e.due("a new object", new SnowScore().forged(), 0);
        e.due("two", forgers().forged(), 2);
        SnowScore x = told(ROW);
        walk(x, 0, 1, 1, 1);
        e.due("honest ones", x.forged(), 0);
        // Of 90 marks the last two are read: v's own upon them, too far from home.
        x = told("field 8 1;farm f 0 0 0 0;walker w f 9 1 0 0;walker v f 9 1 7 0;");
        x.boots(1, 0);
        for (int i = 0; i < 45; i++) {
            walk(x, 1, 3, 1);
        }
        e.due("90", x.count(7), 90);
        e.due("of 90: by the ones ahead they close", x.forged(), 0);
        e.due("of 90: the first", x.forgery(0), -2);
        e.asks("forged", y -> y.forged());
    }

    private static void forgeriesByNumbers(Edges e) {
        SnowScore x = forgers();
        e.due("the first", x.forgery(0), 1);
        e.due("the second", x.forgery(1), 3);
        e.asks("forgery", y -> y.forgery(0));
    }

    private static void noSoManyForgeries(Edges e) {
        SnowScore x = forgers();
        e.due("a third", x.forgery(2), -2);
        e.due("far off", x.forgery(Edges.FAR_RIGHT), -2);
        e.due("none", new SnowScore().forgery(0), -2);
    }

    private static void forgeryBelow0(Edges e) {
        e.due("-1", forgers().forgery(-1), -1);
        e.due("far below", forgers().forgery(Edges.FAR_LEFT), -1);
        e.due("of none", new SnowScore().forgery(-1), -1);
        e.refusedFor("forgery", SnowScore::forgery, -1, -1, -2, Edges.FAR_LEFT);
    }

    // ---- trails

    private static void greatestNumberBelow(Edges e) {
        // Marks 0 to 5 in cells 1 2 3 2 1 2: from 5 to 4 in 1, not to 3 in the same cell.
        SnowScore x = told(ROW);
        walk(x, 0, 1, 1, 1, 3, 3, 1);
        int[] trail = {5, 4, 3, 2, 1, 0};
        for (int k = 0; k < trail.length; k++) {
            e.due("the " + k + "-th", x.trailed(5, k), trail[k]);
        }
        // One that lies between, farther off, is passed over.
        x = told("field 8 1;farm f 0 0 0 0;walker w f 9 1 0 0;walker v f 9 1 7 0;");
        x.boots(1, 0);
        walk(x, 0, 1);
        walk(x, 1, 3);
        walk(x, 0, 1);
        e.due("of the third", x.trailed(2, 1), 0);
        e.due("two in all", x.trail(2), 2);
        e.due("a greater number is none", x.trail(0), 1);
    }

    private static void andSoOn(Edges e) {
        for (int gait = 1; gait <= 3; gait++) {
            for (int apart = 1; apart <= 4; apart++) {
                SnowScore x = told("field 8 6;farm f 0 0 0 0;walker w f 9 " + gait + " 0 0;walker v f 9 1 7 5;");
                x.boots(1, 0);
                walk(x, 1, 3);
                x.boots(1, 1);
                for (int i = 1; i < apart; i++) {
                    walk(x, 1, i == 1 ? 3 : 0);
                }
                x.boots(1, 0);
                walk(x, 1, 0);
                e.due("a gait of " + gait + ", " + apart + " apart", x.trail(apart), apart <= gait ? 2 : 1);
            }
        }
        SnowScore x = told(ROW.replace("walker v g 10", "walker v g 5") + "law fade 0;");
        x.boots(1, 0);
        walk(x, 0, 1, 1, 1);
        walk(x, 1, 3, 3, 3);
        e.due("v's in w's boots, not on to w's: too far", x.trail(5), 3);
        x.fall(3);
        x.fox(1, 1, 8);
        e.due("under cover", x.trail(5), 3);
        x.thaw(8);
        e.due("v's are gone", x.trail(5), -1);
        e.due("w's are there", x.trail(2), 3);
        walk(x, 1, 3);
        e.due("from 3 on: upon w's at 3", x.trailed(6, 1), 2);
        e.due("in all", x.trail(6), 4);
    }

    private static void lengthOfTrails(Edges e) {
        SnowScore x = told(ROW);
        walk(x, 0, 1);
        e.due("one", x.trail(0), 1);
        walk(x, 0, 1);
        e.due("two", x.trail(1), 2);
        e.due("one still", x.trail(0), 1);
        e.asks("trail", y -> y.trail(4));
    }

    private static void noSuchTrail(Edges e) {
        e.bounds("trail", SnowScore::trail, -1, 0, World.MARKS - 1);
        e.due("none at all", new SnowScore().trail(0), -1);
        SnowScore x = told(ROW);
        walk(x, 0, 1, 1);
        x.thaw(19);
        e.due("not gone yet", x.trail(0), 1);
        x.thaw(1);
        e.due("gone", x.trail(0), -1);
        e.due("gone, the other", x.trail(1), -1);
    }

    private static void itselfFirst(Edges e) {
        SnowScore x = told(ROW);
        walk(x, 0, 1, 1, 1);
        for (int mark = 0; mark < 3; mark++) {
            e.due("itself", x.trailed(mark, 0), mark);
        }
        e.due("the last of three", x.trailed(2, 2), 0);
        e.asks("trailed", y -> y.trailed(4, 1));
    }

    private static void noSoManyTrailed(Edges e) {
        SnowScore x = told(ROW);
        walk(x, 0, 1, 1, 1);
        e.due("a fourth", x.trailed(2, 3), -2);
        e.due("a second of one", x.trailed(0, 1), -2);
        e.due("far off", x.trailed(2, Edges.FAR_RIGHT), -2);
    }

    private static void noSuchTrailed(Edges e) {
        e.bounds("mark", (x, mark) -> x.trailed(mark, 0), -1, 0, World.MARKS - 1);
        e.refusedFor("k", (x, k) -> x.trailed(0, k), -1, -1, -2, Edges.FAR_LEFT);
        SnowScore x = told(ROW);
        walk(x, 0, 1);
        x.thaw(20);
        e.due("gone", x.trailed(0, 0), -1);
        e.due("gone, and no so many", x.trailed(0, 5), -1);
        e.due("no such mark, and no so many", x.trailed(1, 5), -1);
    }

    // ---- quiet ways

    private static void besideOneAnother(Edges e) {
        SnowScore x = told("field 3 2;");
        // Not from the end of a row to the beginning of the next one.
        e.due("from 2 to 3", x.quiet(2, 3, 1), 3);
        e.due("across", x.quiet(0, 4, 1), 2);
        e.due("beside", x.quiet(4, 1, 1), 1);
        e.due("to itself", x.quiet(4, 4, 1), 0);
        e.due("to itself, NEW", x.quiet(4, 4, 0), 0);
        x = told("field 1 1;");
        e.due("in a field of one cell", x.quiet(0, 0, 1), 0);
        x = told("field 8 6;");
        e.due("from one end to the other", x.quiet(0, 47, 1), 12);
        x = told("field 3 1;tree 1 0;");
        e.due("by a tree", x.quiet(0, 2, 1), 2);
    }

    private static void newCells(Edges e) {
        SnowScore x = told("field 5 1;tree 1 0;ice 2 0;farm f 0 0 0 0;walker w f 9 1 4 0;");
        e.due("a tree, ice and snow", x.quiet(0, 3, 0), 1);
        e.due("to a tree", x.quiet(0, 1, 0), 0);
        e.due("to ice", x.quiet(0, 2, 0), 0);
        e.due("the last one, too", x.quiet(2, 4, 0), 2);
        e.due("not the first one", x.quiet(3, 2, 0), 0);
        walk(x, 0, 3);
        e.due("one is read", x.quiet(2, 4, 0), 1);
        x.fox(3, 1, 1);
        e.due("a blurred one is read", x.quiet(2, 4, 0), 1);
        x.fall(1);
        e.due("a covered one isn't", x.quiet(2, 4, 0), 2);
        x.thaw(1);
        e.due("a bare one is", x.quiet(2, 4, 0), 1);
        x.thaw(9);
        e.due("a gone one isn't", x.quiet(2, 4, 0), 2);
    }

    /** All ways between two cells that cross none twice, the least by NEW, STEPS and ways; cells as in field 3 3. */
    private static List<Integer> leastWay(boolean[] fresh, int from, int to) {
        List<Integer> way = new ArrayList<>();
        List<Integer> best = new ArrayList<>();
        way.add(from);
        search(fresh, to, way, best);
        return best;
    }

    private static void search(boolean[] fresh, int to, List<Integer> way, List<Integer> best) {
        int at = way.get(way.size() - 1);
        if (at == to) {
            // Ways come in the order of 0 to 3, so that the first of several stays.
            if (best.isEmpty() || cost(fresh, way) < cost(fresh, best)) {
                best.clear();
                best.addAll(way);
            }
            return;
        }
        int[] beside = {at - 3, at % 3 < 2 ? at + 1 : -1, at + 3, at % 3 > 0 ? at - 1 : -1};
        for (int next : beside) {
            if (next >= 0 && next < 9 && !way.contains(next)) {
                way.add(next);
                search(fresh, to, way, best);
                way.remove(way.size() - 1);
            }
        }
    }

    private static int newOn(boolean[] fresh, List<Integer> way) {
        int sum = 0;
        for (int i = 1; i < way.size(); i++) {
            sum += fresh[way.get(i)] ? 1 : 0;
        }
        return sum;
    }

    private static int cost(boolean[] fresh, List<Integer> way) {
        return 100 * newOn(fresh, way) + way.size();
    }

    private static void fewestAndFirst(Edges e) {
        // Each set of ice in a field of three by three.
        for (int set = 0; set < 512; set += 7) {
            StringBuilder text = new StringBuilder("field 3 3;");
            boolean[] fresh = new boolean[9];
            for (int cell = 0; cell < 9; cell++) {
                fresh[cell] = (set >> cell & 1) == 0;
                if (!fresh[cell]) {
                    text.append(cell % 2 == 0 ? "ice " : "tree ").append(cell % 3).append(' ').append(cell / 3).append(';');
                }
            }
            SnowScore x = told(text.toString());
            for (int from = 0; from < 9; from += 2) {
                for (int to = 0; to < 9; to += 3) {
                    List<Integer> way = leastWay(fresh, from, to);
                    e.due("NEW by set " + set, x.quiet(from, to, 0), newOn(fresh, way));
                    e.due("STEPS by set " + set, x.quiet(from, to, 1), way.size() - 1);
                    e.due("a cell by set " + set, x.hushed(from, to, way.size() / 2), way.get(way.size() / 2));
                    e.due("a cell ahead by set " + set, x.hushed(from, to, way.size() / 3), way.get(way.size() / 3));
                }
            }
        }
        // The longest of all ways that leave least: there and back again over ice.
        SnowScore x = told("field 8 6;ice 1 0;ice 1 1;ice 1 2;ice 1 3;ice 1 4;ice 1 5;ice 2 5;ice 3 5;ice 3 4;ice 3 3;ice 3 2;ice 3 1;"
            + "tree 3 0;tree 4 0;tree 5 0;tree 5 1;tree 5 2;tree 5 3;tree 5 4;tree 5 5;tree 6 5;");
        e.due("NEW", x.quiet(0, 7, 0), 2);
        e.due("NEW to a tree", x.quiet(0, 46, 0), 0);
        e.due("STEPS to a tree", x.quiet(0, 46, 1), 21);
        e.due("its last but one", x.hushed(0, 46, 20), 45);
    }

    private static void newAndSteps(Edges e) {
        SnowScore x = World.made();
        e.due("NEW", x.quiet(0, 7, 0), 1);
        e.due("STEPS", x.quiet(0, 7, 1), 4);
        x = told(ROW);
        e.due("over new snow", x.quiet(0, 3, 0), 3);
        walk(x, 0, 1);
        e.due("over one mark", x.quiet(0, 3, 0), 2);
        e.asks("quiet", y -> y.quiet(0, 7, 0));
    }

    private static void noSuchQuiet(Edges e) {
        e.bounds("from", (x, from) -> x.quiet(from, 7, 0), -1, 0, World.CELLS - 1);
        e.bounds("to", (x, to) -> x.quiet(0, to, 0), -1, 0, World.CELLS - 1);
        e.bounds("what", (x, what) -> x.quiet(0, 7, what), -1, 0, 1);
    }

    private static void firstOfWay(Edges e) {
        SnowScore x = told("field 3 3;");
        int[] way = {0, 1, 2, 5, 8};
        int[] back = {8, 5, 2, 1, 0};
        for (int k = 0; k < 5; k++) {
            e.due("the " + k + "-th", x.hushed(0, 8, k), way[k]);
            e.due("the " + k + "-th of the way back", x.hushed(8, 0, k), back[k]);
        }
        e.due("to itself", x.hushed(4, 4, 0), 4);
        // By what is read now, whatever was asked ahead.
        x = told("field 3 3;farm f 0 0 0 0;walker w f 9 1 0 0;");
        e.due("over new snow", x.hushed(0, 8, 1), 1);
        walk(x, 0, 2, 2, 1, 1);
        e.due("over marks", x.hushed(0, 8, 1), 3);
        x.fall(1);
        e.due("over covered ones", x.hushed(0, 8, 1), 1);
        e.asks("hushed", y -> y.hushed(0, 7, 2));
    }

    private static void noSoManyHushed(Edges e) {
        SnowScore x = told("field 3 3;");
        e.due("a sixth", x.hushed(0, 8, 5), -2);
        e.due("a second of one", x.hushed(4, 4, 1), -2);
        e.due("far off", x.hushed(0, 8, Edges.FAR_RIGHT), -2);
        e.due("the fifth is there", x.hushed(0, 8, 4), 8);
    }

    private static void noSuchHushed(Edges e) {
        e.bounds("from", (x, from) -> x.hushed(from, 7, 0), -1, 0, World.CELLS - 1);
        e.bounds("to", (x, to) -> x.hushed(0, to, 0), -1, 0, World.CELLS - 1);
        e.refusedFor("k", (x, k) -> x.hushed(0, 7, k), -1, -1, -2, Edges.FAR_LEFT);
        e.due("no such cell, and no so many", World.made().hushed(8, 0, 50), -1);
    }
}
