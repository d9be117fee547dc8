/** The document's promises one by one: ordinary inputs, the edges that it names, wrong inputs. */
public final class PromisesTest extends Telling {
    private static int wrong = 0;
    private static int asked = 0;

    private static final int FAR_LEFT = Integer.MIN_VALUE;
    private static final int FAR_RIGHT = Integer.MAX_VALUE;

    /** Two farms side by side, a tree, ice, two walkers; w steps by one, v by two. */
    private static final String TWO = "field 4 2;tree 3 0;ice 0 1;farm f 0 0 1 1;farm g 2 0 3 1;"
        + "walker w f 20 1 0 0;walker v g 10 2 2 1;cast 50 20 100;seed 0;";

    /** One row; f has the left end, g the rest; both walkers step by one. */
    private static final String ROW = "field 8 1;farm f 0 0 0 0;farm g 1 0 7 0;walker w f 20 1 0 0;walker v g 10 1 7 0;";

    private static void due(int promise, String what, long got, long want) {
        asked++;
        if (got != want) {
            wrong++;
            System.out.println("promise " + promise + ": " + what + " answered " + got + ", due is " + want);
        }
    }

    private static void due(int promise, String what, boolean got, boolean want) {
        due(promise, what, got ? 1 : 0, want ? 1 : 0);
    }

    public static void main(String[] args) {
        newObject();
        feeds();
        texts();
        grammar();
        faultsOfTokens();
        faultsOfBounds();
        faultsOfTellings();
        names();
        looks();
        cells();
        marks();
        laws();
        lawValues();
        steps();
        lastMark();
        boots();
        foxes();
        hours();
        falls();
        thaws();
        nights();
        winters();
        reads();
        scores();
        aheads();
        claims();
        strikes();
        judgements();
        forgeries();
        trails();
        quietWays();
        coveredHours();
        bestHours();
        rests();
        sights();
        umpires();
        belows();
        layers();
        chances();
        chancesAtTheLastHours();
        trials();
        undone();
        images();
        counts();
        if (wrong > 0) {
            System.out.println(wrong + " of " + asked + " answers are not as due");
            System.exit(1);
        }
        System.out.println(asked + " answers are as due");
    }

    // ---- help

    private static void fault(String text, int kind, int place) {
        SnowScore x = new SnowScore();
        due(3, "text: " + text, tell(x, text), -1);
        due(4, "fault(0) of: " + text, x.fault(0), kind);
        due(4, "fault(1) of: " + text, x.fault(1), place);
    }

    private static void good(String text, int lines) {
        SnowScore x = new SnowScore();
        due(3, "text: " + text, tell(x, text), lines);
        due(4, "fault(0) of: " + text, x.fault(0), 0);
        due(4, "fault(1) of: " + text, x.fault(1), -1);
    }

    // ---- the text

    private static void newObject() {
        SnowScore x = new SnowScore();
        int[] counts = {6, 5, 0, 0, 0, 0, 0, 0, 0, 0, 0, 0, 0, 0};
        for (int what = 0; what < counts.length; what++) {
            due(1, "count(" + what + ")", x.count(what), counts[what]);
        }
        due(1, "fault(0)", x.fault(0), 0);
        due(1, "fault(1)", x.fault(1), -1);
        due(1, "cell(29, 1)", x.cell(29, 1), 0);
        due(1, "cell(30, 1)", x.cell(30, 1), -2);
        due(1, "text(1) of an empty tape", x.text(1), -2);
        due(1, "back()", x.back(), -1);
        due(1, "undo()", x.undo(), -1);
    }

    private static void feeds() {
        SnowScore x = new SnowScore();
        for (int i = 1; i <= 35; i++) {
            due(2, "feed " + i, x.feed(0x20202020, 0x20202020, 0x20202020, 0x20202020, 0x20202020), 20L * i);
        }
        due(2, "a 36th feed", x.feed(0x3b3b3b3b, 0, 0, 0, 0), -1);
        due(2, "none came by it", x.text(701), -2);
        due(2, "text(700)", x.text(700), 0);
        due(2, "feed behind text", x.feed(0, 0, 0, 0, 0), 20);
        // The highest byte of each number comes first: "seed 1;" and "A" behind it.
        x = new SnowScore();
        x.feed(0x73656564, 0x20313b41, 0, 0, FAR_LEFT);
        due(2, "text(7)", x.text(7), 1);
        x.feed(0x73656564, 0x20313b80, 0, 0, -1);
        due(2, "text(8)", x.text(8), -1);
        due(2, "a byte above 127 is no token", x.fault(1), 7);
    }

    private static void texts() {
        SnowScore x = new SnowScore();
        put(x, "seed 1;");
        due(3, "text(-1)", x.text(-1), -2);
        due(3, "text(21)", x.text(21), -2);
        due(3, "the tape stays", x.feed(0, 0, 0, 0, 0), 40);
        due(3, "text(7)", x.text(7), 1);
        due(3, "text of no bytes", x.text(0), 0);
        put(x, "law deep 1<=2;");
        due(3, "text(11), cut within a sign", x.text(11), -1);
        due(4, "the length", x.fault(1), 11);
        put(x, "seed 12;");
        due(3, "text(6), cut within a number", x.text(6), -1);
        due(4, "the length", x.fault(1), 6);
        put(x, "farm f 0 0 0 0;");
        due(3, "text(3), cut within a word", x.text(3), -1);
        due(4, "no word of the language", x.fault(1), 0);
        due(3, "the tape is empty", x.text(1), -2);

        x = told(TWO);
        walk(x, 0, 1, 1);
        x.hours(2);
        x.fall(3);
        x.claim(1, 0, 0, 0);
        x.known(0);
        x.keep();
        x.winter();
        walk(x, 0, 1);
        due(3, "a text with a fault", tell(x, "tree 9 9;"), -1);
        int[] stays = {4, 2, 2, 2, 0, 2, 0, 1, 1, 1, 1, 1, 0, 1};
        for (int what = 0; what < stays.length; what++) {
            due(3, "all stays: count(" + what + ")", x.count(what), stays[what]);
        }
        due(3, "the tape is empty behind a fault", x.text(1), -2);
        due(3, "the image stays", x.back(), 2);
        x.winter();
        walk(x, 0, 1);
        due(3, "text", tell(x, TWO), 9);
        int[] fresh = {4, 2, 2, 2, 0, 0, 0, 0, 0, 0, 0, 0, 0, 0};
        for (int what = 0; what < fresh.length; what++) {
            due(3, "behind a text: count(" + what + ")", x.count(what), fresh[what]);
        }
        due(3, "no image", x.back(), -1);
        due(3, "nothing to undo", x.undo(), -1);
        due(3, "no debt", x.score(1, 1), 0);
        due(3, "at home", x.look(0, 0), 0);
        x.claim(0, 0, 0, 0);
        due(3, "all known, those to come too", x.count(12), 1);
        due(3, "text without lines", tell(x, " \n "), 0);
        due(3, "the field without", x.count(0) * 10 + x.count(1), 65);
    }

    private static void grammar() {
        good("", 0);
        good("seed0;", 1);
        good("seed 00000000000000000000007;", 1);
        good("tree0 0;ice 1\n0;", 2);
        good("field 8 6;tree 7 5;", 2);
        good("cast 0 100;law fade 1;field 1 1;", 3);
        good("farm abcdef 0 0 5 4;walker abcdef abcdef 60 3 5 4;walker f abcdef 1 1 0 0;", 3);
        good("law deep ((((((((1))))))));", 1);
        good("law deep (((1)))+((((((((1))))))));", 1);
        good("law score not not 1<2 and not 3 or 4<>5*(6<=7)-8/9 and 1>=2;", 1);
        good("law fade (not 1)+(1<2)<(1 and 2);", 1);
        good("cast " + often("1 ", 24) + ";", 1);
        good("law deep " + often("not ", 63) + "1;", 1);
        SnowScore x = told("law deep 1+(2*3);law fade not weight<=1 and 2;law score own;");
        due(46, "knots", x.count(4), 5 + 6 + 1);
    }

    private static void faultsOfTokens() {
        fault(";", 1, 0);
        fault("field 1 1", 1, 9);
        fault("field 1 1  ", 1, 11);
        fault("field 1", 1, 7);
        fault("field 1 1 1;", 1, 10);
        fault("  snow;", 1, 2);
        fault("Field 1 1;", 1, 0);
        fault("seed 1;\t", 1, 7);
        fault("seed -1;", 1, 5);
        fault("farm abcdefg 0 0 0 0;", 1, 5);
        fault("farm snow 0 0 0 0;", 1, 5);
        fault("farm 1 0 0 0 0;", 1, 5);
        fault("farm f f 0 0 0;", 1, 7);
        fault("farm f 0 0 0 0;walker w own 1 1 0 0;", 1, 24);
        fault("cast;", 1, 4);
        fault("cast 1,2;", 1, 6);
        fault("law own 1;", 1, 4);
        fault("law weight 1;", 1, 4);
        fault("law law 1;", 1, 4);
        fault("law deep 1 2;", 1, 11);
        fault("law deep (1;", 1, 11);
        fault("law deep (1", 1, 11);
        fault("law deep 1);", 1, 10);
        fault("law deep ();", 1, 10);
        fault("law deep 1+;", 1, 11);
        fault("law deep 1+", 1, 11);
        fault("law deep -1;", 1, 9);
        fault("law deep 1<2<3;", 1, 12);
        fault("law deep 1<2+3=4;", 1, 14);
        fault("law deep 1< =2;", 1, 12);
        fault("law deep 1=<2;", 1, 11);
        fault("law deep 1><2;", 1, 11);
        fault("law deep 1<not 2;", 1, 11);
        fault("law deep 1+not 2;", 1, 11);
        fault("law deep not;", 1, 12);
        fault("law deep 1 not 2;", 1, 11);
        fault("law deep x;", 1, 9);
        fault("law deep walker;", 1, 9);
        // At one place the least: a token that can't stand there, not the 65th knot.
        fault("law deep " + often("not ", 63) + "1 not", 1, 9 + 63 * 4 + 2);
    }

    private static void faultsOfBounds() {
        fault("field 0 1;", 2, 6);
        fault("field 9 1;", 2, 6);
        fault("field 1 0;", 2, 8);
        fault("field 1 7;", 2, 8);
        fault("field 99999999999999999999 1;", 2, 6);
        fault("tree 6 0;", 2, 5);
        fault("tree 0 5;", 2, 7);
        fault("field 2 2;ice 2 0;", 2, 14);
        fault("farm f 1 1 0 1;", 2, 11);
        fault("farm f 1 1 1 0;", 2, 13);
        fault("farm f 6 0 6 0;", 2, 7);
        fault("farm f 0 5 0 5;", 2, 9);
        fault("farm f 0 0 6 0;", 2, 11);
        fault("farm f 0 0 0 5;", 2, 13);
        fault("farm f 0 0 0 0;walker w f 0 1 0 0;", 2, 26);
        fault("farm f 0 0 0 0;walker w f 61 1 0 0;", 2, 26);
        fault("farm f 0 0 0 0;walker w f 1 0 0 0;", 2, 28);
        fault("farm f 0 0 0 0;walker w f 1 4 0 0;", 2, 28);
        fault("farm f 0 0 0 0;walker w f 1 1 6 0;", 2, 30);
        fault("farm f 0 0 0 0;walker w f 1 1 0 5;", 2, 32);
        fault("seed 100000;", 2, 5);
        fault("cast 0 101;", 2, 7);
        fault("cast " + often("1 ", 24) + "0;", 2, 5 + 48);
        fault("law deep 10000;", 2, 9);
        fault("law deep (((((((((1", 2, 17);
        fault("law deep (1)+(((((((((1", 2, 21);
        fault("law deep " + often("not ", 65), 2, 9 + 64 * 4);
        fault("law deep " + often("1+", 32) + "1;", 2, 9 + 64);
        fault("law deep " + often("1+", 31) + "1;law fade 1;law score 1;", 2, 9 + 62 + 2 + 9 + 2 + 10);
        StringBuilder trees = new StringBuilder();
        for (int i = 0; i < 12; i++) {
            trees.append("tree ").append(i % 6).append(' ').append(i / 6).append(';');
        }
        good(trees.toString(), 12);
        fault(trees + "tree", 2, 12 * 9);
        String ice = trees.toString().replace("tree ", "ice ").replace(" 1;", " 3;").replace(" 0;", " 2;");
        good(trees + ice, 24);
        fault(trees + ice + "ice 0 4;", 2, 12 * 9 + 12 * 8);
        String farms = "farm a 0 0 0 0;farm b 0 0 0 0;farm c 0 0 0 0;";
        good(farms, 3);
        fault(farms + "farm a", 2, 45);
        String walkers = "farm a 0 0 0 0;";
        for (String name : new String[] {"a", "b", "c", "d", "e"}) {
            walkers += "walker " + name + " a 1 1 0 0;";
        }
        good(walkers, 6);
        fault(walkers + "walker a b", 2, 15 + 5 * 19);
    }

    private static void faultsOfTellings() {
        fault("field 1 1;field", 3, 10);
        fault("field 2 2;tree 0 0;field", 3, 19);
        fault("tree 0 0;field 9", 4, 9);
        fault("farm f 0 0 0 0;field 1 1;", 4, 15);
        fault("tree 1 2;ice 1 2;", 3, 15);
        fault("ice 1 2;tree 1 2;", 3, 15);
        fault("ice 1 2;tree 1 5;", 2, 15);
        fault("seed 1;seed", 3, 7);
        fault("cast 1;cast", 3, 7);
        fault("law deep 1;law deep", 3, 15);
        fault("farm f 0 0 0 0;farm f", 3, 20);
        fault("walker w f 1 1 0 0;", 4, 9);
        fault("farm f 0 0 0 0;walker w f 1 1 0 0;walker w g", 3, 41);
        fault("farm f 0 0 0 0;walker w g 0", 4, 24);
        SnowScore x = new SnowScore();
        tell(x, "seed;");
        due(4, "fault(2)", x.fault(2), -1);
        due(4, "fault(-1)", x.fault(-1), -1);
        due(4, "text(9)", x.text(9), -2);
        due(4, "fault(0) behind -2", x.fault(0), 1);
        due(4, "fault(1) behind -2", x.fault(1), 4);
        tell(x, "seed 1;");
        due(4, "fault(0) behind a good one", x.fault(0), 0);
        due(4, "fault(1) behind a good one", x.fault(1), -1);
    }

    private static void names() {
        SnowScore x = told("farm abcdef 0 0 0 0;farm b 0 0 0 0;walker b b 1 1 0 0;walker zz b 1 1 0 0;");
        due(5, "farm abcdef", x.named(0, letters("abcdef")), 0);
        due(5, "farm b", x.named(0, letters("b")), 1);
        due(5, "walker b", x.named(1, letters("b")), 0);
        due(5, "walker zz", x.named(1, letters("zz")), 1);
        due(5, "farm zz", x.named(0, letters("zz")), -1);
        due(5, "b in the lowest bits", x.named(0, 2), -1);
        due(5, "no letters", x.named(0, 0), -1);
        due(5, "more than 30 bits", x.named(0, letters("b") | 1 << 30), -1);
        due(5, "below 0", x.named(1, letters("b") | FAR_LEFT), -1);
        due(5, "what 2", x.named(2, letters("b")), -1);
        due(5, "what -1", x.named(-1, letters("b")), -1);
    }

    // ---- what is there

    private static void looks() {
        SnowScore x = told(TWO);
        due(6, "look(1, 0)", x.look(1, 0), 6);
        due(6, "look(1, 1)", x.look(1, 1), 1);
        due(6, "look(1, 2)", x.look(1, 2), 0);
        due(6, "look(1, 3)", x.look(1, 3), 1);
        walk(x, 1, 3);
        x.boots(1, 0);
        due(6, "look(1, 0) behind a step", x.look(1, 0), 5);
        due(6, "look(1, 2) behind a step", x.look(1, 2), 1);
        due(6, "look(1, 3) in boots", x.look(1, 3), 0);
        due(6, "look(1, 4)", x.look(1, 4), 6);
        due(6, "look(2, 0)", thrown(x, 2, 0), 1);
        due(6, "look(-1, 0)", thrown(x, -1, 0), 1);
        due(6, "look(0, 5)", thrown(x, 0, 5), 2);
        due(6, "look(0, -1)", thrown(x, 0, -1), 2);
        due(6, "look(2, 5)", thrown(x, 2, 5), 1);
    }

    private static void cells() {
        SnowScore x = told("field 3 2;tree 0 0;ice 1 0;farm f 0 0 1 1;farm g 1 0 1 1;walker w f 5 1 2 1;");
        int[] grounds = {0, 1, -1, 0, 1, -1};
        int[] kinds = {1, 2, 0, 0, 0, 0};
        for (int cell = 0; cell < 6; cell++) {
            due(7, "ground of " + cell, x.cell(cell, 0), grounds[cell]);
            due(7, "kind of " + cell, x.cell(cell, 1), kinds[cell]);
        }
        walk(x, 0, 0, 2, 0);
        due(7, "cell(2, 2)", x.cell(2, 2), 2);
        due(7, "cell(2, 3)", x.cell(2, 3), 2);
        due(7, "cell(5, 3)", x.cell(5, 3), 1);
        x.fall(2);
        due(7, "cell(2, 2) under snow", x.cell(2, 2), 2);
        due(7, "cell(2, 3) under snow", x.cell(2, 3), -1);
        x.thaw(7);
        due(7, "cell(2, 2) when gone", x.cell(2, 2), 0);
        due(7, "cell(6, 0)", x.cell(6, 0), -2);
        due(7, "cell(-1, 0)", x.cell(-1, 0), -2);
        due(7, "cell(0, 4)", x.cell(0, 4), -2);
        due(7, "cell(0, -1)", x.cell(0, -1), -2);
    }

    private static void marks() {
        SnowScore x = told(TWO);
        x.hours(3);
        x.boots(0, 1);
        walk(x, 0, 1);
        x.fox(1, 0, 1);
        x.fall(4);
        int[] values = {1, 1, 1, 3, 20, 4, 0, 1};
        for (int what = 0; what < values.length; what++) {
            due(8, "mark(0, " + what + ")", x.mark(0, what), values[what]);
        }
        x.thaw(24);
        due(8, "DEEP when gone", x.mark(0, 4), 0);
        due(8, "COVER when gone", x.mark(0, 5), 0);
        due(8, "whose, when gone", x.mark(0, 6), 0);
        x.fall(2);
        due(8, "a fall is on all marks, gone ones too", x.mark(0, 5), 2);
        due(8, "mark(0, 8)", x.mark(0, 8), -1);
        due(8, "mark(0, -1)", x.mark(0, -1), -1);
        due(8, "mark(1, 0)", x.mark(1, 0), -1);
        due(8, "mark(-1, 0)", x.mark(-1, 0), -1);
    }

    private static void laws() {
        SnowScore x = told(ROW.replace("walker v g 10 1", "walker v g 10 2") + "law deep weight*100+gait*10+far+deep+age+snow+own;"
            + "law fade weight*1000+far*100+deep+age*7+snow*3;law score own*2-gait;");
        long none = Long.MIN_VALUE;
        due(9, "deep of w at home", x.law(2, 0), 2000 + 10 + 1);
        due(9, "deep of v at home", x.law(2, 1), 1000 + 20 + 1);
        due(9, "no mark yet", x.law(0, 0), none);
        x.fall(5);
        x.boots(1, 0);
        walk(x, 1, 3, 3);
        due(9, "deep is by whose it is, boots or not", x.law(2, 1), 1000 + 20 + 2 + 5 + 1);
        due(9, "mark 0 is as deep as can be", x.mark(0, 4), 99);
        due(9, "fade is by whose it looks", x.law(0, 0), 20000 + 500 + 99 + 15);
        due(9, "score is by whose it looks", x.law(1, 0), -1);
        due(9, "law(3, 0)", x.law(3, 0), none);
        due(9, "law(-1, 0)", x.law(-1, 0), none);
        due(9, "law(0, 1)", x.law(0, 1), none);
        due(9, "law(1, -1)", x.law(1, -1), none);
        due(9, "law(2, 2)", x.law(2, 2), none);
        due(9, "law(2, -1)", x.law(2, -1), none);
        x.fall(1);
        due(9, "under snow, too", x.law(0, 0), 20000 + 500 + 99 + 18);
        x.hours(2);
        due(9, "age", x.law(0, 0), 20000 + 500 + 99 + 14 + 18);
        x.thaw(99);
        x.thaw(99);
        due(9, "gone", x.law(0, 0), none);
        x = told(ROW);
        walk(x, 0, 1);
        due(9, "no such law: fade", x.law(0, 0), none);
        due(9, "no such law: score", x.law(1, 0), none);
        due(9, "no such law: deep", x.law(2, 0), none);
    }

    private static void lawIs(String e, long value) {
        SnowScore x = told(ROW + "law deep " + e + ";");
        due(9, e, x.law(2, 0), value);
    }

    private static void lawValues() {
        long error = Long.MIN_VALUE;
        lawIs("1+2*3", 7);
        lawIs("(1+2)*3", 9);
        lawIs("9-3-2", 4);
        lawIs("99/7/2", 7);
        lawIs("7/2*2", 6);
        lawIs("(0-7)/2", -3);
        lawIs("7/(0-2)", -3);
        lawIs("1/0", error);
        lawIs("1/(2-2)*0", error);
        lawIs("1 or 1/0", error);
        lawIs("0 and 1/0", error);
        lawIs("5 and 0-7", 1);
        lawIs("5 and 0", 0);
        lawIs("0 or 0-7", 1);
        lawIs("not 0-7", 0);
        lawIs("not not 7", 1);
        lawIs("not 1<0", 1);
        lawIs("not 1 or 1", 1);
        lawIs("1 or 0 and 0", 1);
        lawIs("2<3", 1);
        lawIs("3<3", 0);
        lawIs("3<=3", 1);
        lawIs("3=4", 0);
        lawIs("3<>4", 1);
        lawIs("3>=4", 0);
        lawIs("4>=4", 1);
        lawIs("4>3", 1);
        lawIs("3>3", 0);
        lawIs("1000*1000*1000*999+1000*1000*1000", 1000000000000L);
        lawIs("0-1000*1000*1000*999-1000*1000*1000", -1000000000000L);
        lawIs(often("not ", 63) + "1", 0);
        lawIs(often("(", 8) + often("not ", 62) + "1" + often(")", 8), 1);
        lawIs("1+1=2", 1);
        lawIs("(1<2)+(3>2)", 2);
        lawIs("1000*1000*1000*1000", 1000000000000L);
        lawIs("1000*1000*1000*1000+1", error);
        lawIs("1000*1000*1000*1000+1-1", error);
        lawIs("0-1000*1000*1000*1000", -1000000000000L);
        lawIs("0-1000*1000*1000*1000-1", error);
        lawIs("9999*9999*9999*2", error);
        lawIs("(1000*1000*1000*1000)*(1000*1000*1000*1000)", error);
        lawIs("(0-1000*1000*1000*1000)*(1000*1000*1000*1000)*0", error);
        lawIs("0*(1000*1000*1000*1000)", 0);
        lawIs("9999<2*9999 and 1", 1);
    }

    // ---- what happens

    private static void steps() {
        SnowScore x = told("field 2 2;tree 1 1;ice 0 1;farm f 0 0 1 1;walker w f 9 1 0 0;walker v f 9 3 1 0;");
        due(10, "up, outside", x.step(0, 0), -2);
        due(10, "left, outside", x.step(0, 3), -2);
        due(10, "no step by it", x.look(0, 2), 0);
        due(10, "right", x.step(0, 1), 1);
        due(10, "right, outside", x.step(0, 1), -2);
        due(10, "down, to a tree", x.step(0, 2), 3);
        due(10, "down, outside", x.step(0, 2), -2);
        due(10, "left, to ice", x.step(0, 3), 2);
        due(10, "up", x.step(0, 0), 0);
        due(10, "no marks in trees, on ice", x.count(7), 2);
        due(10, "the way of a mark", x.mark(1, 2), 0);
        due(10, "steps", x.look(0, 2), 4);
        walk(x, 1, 3, 1);
        due(10, "a gait of 3: none yet", x.count(7), 2);
        walk(x, 1, 3);
        due(10, "a gait of 3: one", x.count(7), 3);
        walk(x, 1, 1, 3, 2);
        due(10, "a sixth step on ice: none", x.count(7), 3);
        due(10, "step(2, 0)", x.step(2, 0), -1);
        due(10, "step(-1, 0)", x.step(-1, 0), -1);
        due(10, "step(0, 4)", x.step(0, 4), -1);
        due(10, "step(0, -1)", x.step(0, -1), -1);

        x = told(ROW + "law deep 0-5;");
        walk(x, 0, 1);
        due(10, "DEEP is 1 at least", x.mark(0, 4), 1);
        x = told(ROW + "law deep 1/0;");
        walk(x, 0, 1);
        due(10, "DEEP is WEIGHT with an ERROR", x.mark(0, 4), 20);
        x = told(ROW + "law deep 100;");
        walk(x, 0, 1);
        due(10, "DEEP is 99 at most", x.mark(0, 4), 99);
        x = told(ROW + "law deep far+10;");
        walk(x, 0, 1, 1);
        due(10, "DEEP is by where the mark is", x.mark(1, 4), 12);
    }

    private static void lastMark() {
        SnowScore x = told("field 3 1;tree 0 0;farm f 0 0 2 0;walker w f 9 1 1 0;walker v f 9 2 1 0;");
        for (int i = 0; i < 45; i++) {
            walk(x, 0, 1, 3);
        }
        due(10, "90 marks", x.count(7), 90);
        due(10, "the 91st", x.step(0, 1), -2);
        due(10, "no step by it", x.look(0, 2), 90);
        due(10, "to a tree it goes", x.step(0, 3), 0);
        due(10, "a step that leaves none", x.step(1, 1), 2);
        due(10, "a step that would", x.step(1, 3), -2);
        x.thaw(99);
        due(10, "gone ones count, too", x.step(1, 3), -2);
        due(10, "a deep trail", x.trail(89), -1);
        x.winter();
        due(10, "behind a winter", x.step(0, 1), 2);
        due(10, "numbered from 0 on", x.cell(2, 3), 0);
    }

    private static void boots() {
        SnowScore x = told(TWO);
        due(11, "own ones", x.boots(0, 0), false);
        due(11, "another one's", x.boots(0, 1), true);
        due(11, "it is so", x.boots(0, 1), false);
        walk(x, 0, 1);
        due(11, "it looks", x.mark(0, 0), 1);
        due(11, "it is", x.mark(0, 6), 0);
        due(11, "GAIT stays one's own", x.count(7), 1);
        due(11, "own ones again", x.boots(0, 0), true);
        due(11, "boots(2, 0)", x.boots(2, 0), false);
        due(11, "boots(0, 2)", x.boots(0, 2), false);
        due(11, "boots(-1, 0)", x.boots(-1, 0), false);
        due(11, "boots(0, -1)", x.boots(0, -1), false);
    }

    private static void foxes() {
        SnowScore x = told(ROW);
        walk(x, 0, 1, 1, 1, 3);
        due(12, "against the way, as far as the field goes", x.fox(1, 3, 8), 1);
        due(12, "two cells", x.fox(2, 1, 2), 2);
        due(12, "the latest mark alone", x.mark(1, 7), 0);
        due(12, "the latest mark", x.mark(3, 7), 1);
        due(12, "blurred already", x.fox(0, 1, 8), 0);
        due(12, "fox(8, 1, 1)", x.fox(8, 1, 1), -1);
        due(12, "fox(-1, 1, 1)", x.fox(-1, 1, 1), -1);
        due(12, "fox(0, 4, 1)", x.fox(0, 4, 1), -1);
        due(12, "fox(0, -1, 1)", x.fox(0, -1, 1), -1);
        due(12, "fox(0, 1, 0)", x.fox(0, 1, 0), -1);
        due(12, "fox(0, 1, 9)", x.fox(0, 1, 9), -1);
        x.winter();
        walk(x, 0, 1, 1);
        x.fall(1);
        due(12, "under snow", x.fox(0, 1, 8), 0);
        x.thaw(1);
        due(12, "laid bare", x.fox(0, 1, 8), 2);
        x = told(TWO);
        walk(x, 0, 1, 1, 1, 2);
        due(12, "a tree is no end", x.fox(3, 2, 2), 1);
    }

    private static void hours() {
        SnowScore x = told(ROW + "law fade age+1;");
        walk(x, 0, 1);
        due(13, "hours(0)", x.hours(0), 0);
        due(13, "no hour went by", x.count(13), 1);
        due(13, "hours(2)", x.hours(2), 2);
        due(13, "less DEEP by what was ahead", x.mark(0, 4), 20 - 1 - 2);
        x.fall(1);
        x.hours(5);
        due(13, "under snow none fades", x.mark(0, 4), 17);
        x.thaw(1);
        due(13, "hours(1)", x.hours(1), 8);
        due(13, "by its age", x.mark(0, 4), 9);
        x.hours(1);
        due(13, "at 0 it is gone", x.count(8), 0);
        due(13, "hours(-1)", x.hours(-1), -1);
        due(13, "hours(100)", x.hours(100), -1);
        due(13, "hours(99)", x.hours(99), 108);
        for (int i = 0; i < 99; i++) {
            x.hours(99);
        }
        due(13, "the hour", x.hours(0), 9909);
        due(13, "behind 9999", x.hours(91), -1);
        due(13, "none did", x.count(5), 9909);
        due(13, "to 9999", x.hours(90), 9999);
        due(13, "one more", x.hours(1), -1);
        due(16, "a night behind 9999", x.night(), -100);
        due(13, "hours(0) at the end", x.hours(0), 9999);
        walk(x, 0, 1);
        due(21, "a claim of the last hour", x.claim(2, 0, 9999, 9999), 0);
        due(24, "it is so", x.judged(), -1);
        x = told(ROW + "law fade 0-5;");
        walk(x, 0, 1);
        x.hours(1);
        due(13, "fade is 0 at least", x.mark(0, 4), 20);
        x = told(ROW + "law deep 99;law fade 1/0;");
        walk(x, 0, 1);
        x.hours(1);
        due(13, "0 with an ERROR", x.mark(0, 4), 99);
        x = told(ROW + "law deep 99;law fade 1000*(age=1);");
        walk(x, 0, 1);
        x.hours(1);
        due(13, "fade, not yet", x.mark(0, 4), 99);
        x.hours(1);
        due(13, "fade is 99 at most", x.mark(0, 4), 0);
    }

    private static void falls() {
        SnowScore x = told(ROW);
        walk(x, 0, 1);
        due(14, "fall(0)", x.fall(0), -1);
        due(14, "fall(100)", x.fall(100), -1);
        due(14, "fall(-1)", x.fall(-1), -1);
        due(14, "nothing fell", x.count(9), 1);
        due(14, "fall(1)", x.fall(1), 1);
        due(14, "fall(99)", x.fall(99), 100);
        due(14, "COVER", x.mark(0, 5), 100);
        for (int i = 0; i < 99; i++) {
            x.fall(99);
        }
        due(14, "SNOW", x.count(6), 9901);
        due(14, "9999 at most", x.fall(99), 9999);
        due(14, "COVER is more", x.mark(0, 5), 10000);
    }

    private static void thaws() {
        SnowScore x = told(ROW);
        walk(x, 0, 1);
        x.fall(5);
        walk(x, 0, 1);
        due(15, "thaw(0)", x.thaw(0), -1);
        due(15, "thaw(100)", x.thaw(100), -1);
        due(15, "thaw(-5)", x.thaw(-5), -1);
        due(15, "thaw(3)", x.thaw(3), 0);
        due(15, "COVER is less first", x.mark(0, 5), 2);
        due(15, "DEEP stays", x.mark(0, 4), 20);
        due(15, "without COVER, DEEP is less", x.mark(1, 4), 17);
        due(15, "SNOW", x.count(6), 2);
        due(15, "thaw(4)", x.thaw(4), 0);
        due(15, "what is left of n", x.mark(0, 4), 18);
        due(15, "SNOW is 0 at least", x.count(6), 0);
        due(15, "thaw(13)", x.thaw(13), 1);
        due(15, "those gone already don't count", x.thaw(99), 1);
        due(15, "all gone", x.count(8), 0);
    }

    private static void nights() {
        SnowScore x = told(ROW + "law fade 2;");
        walk(x, 0, 1);
        // From 0 on: 0, 21468, 9988, 22117, 3498, 16927: a fall of 4, a thaw of 3, a fall of 8.
        due(16, "the first night", x.night(), 4);
        due(16, "its hour", x.count(5), 1);
        due(16, "SNOW falls ahead of the hour", x.mark(0, 4), 20);
        due(16, "the second night", x.night(), -3);
        due(16, "COVER", x.mark(0, 5), 1);
        due(16, "the third night", x.night(), 8);
        due(16, "SNOW", x.count(6), 9);
        due(16, "nothing to undo", x.undo(), -1);
        x.keep();
        int fourth = x.night();
        x.back();
        due(16, "the same numbers behind an image", x.night(), fourth);
        x = told(ROW + "seed 1;");
        // From 1 on: 16838, 5758: 16838 modulo 3 is 2.
        due(16, "a night of nothing", x.night(), 0);
        due(16, "its hour goes by", x.count(5), 1);
    }

    private static void winters() {
        SnowScore x = told(ROW);
        walk(x, 0, 1, 1);
        x.boots(0, 1);
        x.fall(2);
        x.thaw(2);
        x.hours(3);
        due(17, "winter()", x.winter(), 1);
        due(17, "a debt", x.score(1, 1), 2);
        due(17, "no debt", x.score(0, 1), 0);
        due(17, "no marks", x.count(7), 0);
        due(17, "no snow", x.count(6), 0);
        due(17, "the hour goes on", x.count(5), 3);
        due(17, "at home", x.look(0, 0), 0);
        due(17, "no steps", x.look(0, 2), 0);
        due(17, "own boots", x.look(0, 3), 0);
        walk(x, 0, 1);
        x.fall(1);
        due(17, "another winter", x.winter(), 2);
        due(17, "what isn't read is no debt", x.score(1, 1), 2);
        walk(x, 0, 1);
        x.winter();
        due(17, "debts are in sum", x.score(1, 1), 3);
    }

    // ---- what is read and scored

    private static void reads() {
        SnowScore x = told(ROW);
        due(18, "none", x.read(1), -2);
        x.boots(0, 1);
        walk(x, 0, 1);
        due(18, "as it looks", x.read(1), 1);
        x.boots(0, 0);
        walk(x, 0, 3, 1);
        due(18, "the latest", x.read(1), 0);
        x.fox(1, 0, 1);
        due(18, "blurred", x.read(1), -3);
        x.fall(1);
        due(18, "covered", x.read(1), -2);
        x.thaw(11);
        due(18, "the other is gone, this one is blurred", x.read(1), -3);
        due(18, "read(8)", x.read(8), -1);
        due(18, "read(-1)", x.read(-1), -1);
    }

    private static void scores() {
        SnowScore x = told(ROW);
        walk(x, 0, 1, 1, 1, 3);
        walk(x, 1, 3);
        due(19, "three cells, one each", x.score(1, 0), 3);
        due(19, "none on the own ground", x.score(0, 0), 0);
        x.fox(2, 0, 1);
        due(19, "the blurred one doesn't", x.score(1, 0), 2);
        due(19, "score(2, 0)", x.score(2, 0), -1);
        due(19, "score(-1, 0)", x.score(-1, 0), -1);
        due(19, "score(0, 2)", x.score(0, 2), -1);
        due(19, "score(0, -1)", x.score(0, -1), -1);
        x = told(ROW + "law score deep-15+age*100*(far=2);");
        walk(x, 0, 1, 1);
        due(19, "by the law", x.score(1, 0), 10);
        x.hours(1);
        due(19, "99 at most", x.score(1, 0), 5 + 99);
        x.thaw(6);
        due(19, "0 at least", x.score(1, 0), 0 + 99);
        x = told(ROW + "law score 1/0;");
        walk(x, 0, 1);
        due(19, "1 with an ERROR", x.score(1, 0), 1);
        x = told(ROW);
        x.boots(0, 1);
        walk(x, 0, 1);
        due(19, "looks as one's own", x.score(1, 0), 0);
        x = told("field 2 1;farm f 0 0 0 0;walker w f 5 1 0 0;");
        walk(x, 0, 1);
        due(19, "nobody's ground", x.score(0, 0), 0);
    }

    private static void aheads() {
        due(20, "no farms", new SnowScore().ahead(), -1);
        SnowScore x = told(ROW);
        due(20, "the first of several", x.ahead(), 0);
        walk(x, 0, 1);
        due(20, "by its score", x.ahead(), 1);
        x.winter();
        due(20, "by its debt", x.ahead(), 1);
        walk(x, 1, 3, 3, 3, 3, 3, 3, 3);
        due(20, "debt and score alike", x.ahead(), 0);
        walk(x, 0, 1);
        due(20, "debt and score in sum", x.ahead(), 1);
    }

    // ---- claims

    private static void claims() {
        SnowScore x = told(ROW);
        due(21, "claim(8, 0, 0, 0)", x.claim(8, 0, 0, 0), -1);
        due(21, "claim(-1, 0, 0, 0)", x.claim(-1, 0, 0, 0), -1);
        due(21, "claim(0, 2, 0, 0)", x.claim(0, 2, 0, 0), -1);
        due(21, "claim(0, -1, 0, 0)", x.claim(0, -1, 0, 0), -1);
        due(21, "claim(0, 0, -1, 0)", x.claim(0, 0, -1, 0), -1);
        due(21, "claim(0, 0, 1, 0)", x.claim(0, 0, 1, 0), -1);
        due(21, "claim(0, 0, 0, 10000)", x.claim(0, 0, 0, 10000), -1);
        due(21, "claim(0, 0, 0, 9999)", x.claim(0, 0, 0, 9999), 0);
        due(22, "strike(1)", x.strike(1), -1);
        due(22, "strike(-1)", x.strike(-1), -1);
        for (int i = 1; i < 23; i++) {
            due(21, "claim " + i, x.claim(7, 1, 5, 5), i);
        }
        due(22, "the 24th", x.strike(0), 23);
        due(21, "a 25th claim", x.claim(0, 0, 0, 0), -1);
        due(22, "a 25th strike", x.strike(0), -1);
        due(46, "claims", x.count(11), 24);
    }

    private static void strikes() {
        SnowScore x = told(ROW);
        x.claim(3, 0, 0, 0);
        x.claim(4, 0, 0, 0);
        due(22, "a strike", x.strike(0), 2);
        due(24, "0 is struck", x.judged(), 1);
        due(22, "a strike of a strike", x.strike(2), 3);
        due(24, "0 counts again", x.judged(), 0);
        due(22, "a strike of that", x.strike(3), 4);
        due(24, "0 is struck again", x.judged(), 1);
        x.strike(1);
        due(24, "all are struck", x.judged(), -1);
        due(23, "known(4)", x.known(4), true);
        due(24, "by four", x.judged(), 0);
        due(23, "known(3)", x.known(3), true);
        due(24, "by three", x.judged(), 1);
        due(23, "known(0)", x.known(0), true);
        due(24, "by none", x.judged(), -1);
        due(46, "by how many", x.count(12), 0);
        due(23, "known(7)", x.known(7), false);
        due(23, "known(-2)", x.known(-2), false);
        due(46, "as it was", x.count(12), 0);
        due(23, "known(6)", x.known(6), true);
        x.claim(5, 0, 0, 0);
        due(24, "one to come isn't known", x.judged(), -1);
        due(46, "by six", x.count(12), 6);
        due(23, "known(-1)", x.known(-1), true);
        due(24, "by all", x.judged(), 6);
        due(46, "by all seven", x.count(12), 7);
    }

    private static void judgements() {
        SnowScore x = told(ROW);
        x.hours(5);
        walk(x, 0, 1);
        due(24, "no claims", x.judged(), -1);
        x.claim(1, 0, 5, 5);
        x.claim(1, 0, 0, 9999);
        due(24, "so", x.judged(), -1);
        x.claim(1, 0, 6, 9);
        due(24, "another hour, later", x.judged(), 2);
        x.strike(2);
        x.claim(1, 0, 0, 4);
        due(24, "another hour, ahead", x.judged(), 4);
        x.strike(4);
        x.claim(1, 1, 0, 9);
        due(24, "another walker", x.judged(), 6);
        x.strike(6);
        x.claim(2, 0, 0, 9);
        due(24, "another cell", x.judged(), 8);
        x.strike(8);
        due(24, "so again", x.judged(), -1);
        x.fox(1, 0, 1);
        due(24, "blurred: nobody's", x.judged(), 0);
        x.undo();
        due(24, "undone", x.judged(), -1);
        x.boots(0, 1);
        walk(x, 0, 1, 3);
        due(24, "another's mark upon it", x.judged(), 0);
        x.winter();
        due(24, "claims stay behind a winter", x.judged(), 0);
    }

    // ---- forgeries and trails

    private static void forgeries() {
        SnowScore x = told(ROW);
        walk(x, 1, 3);
        x.boots(1, 0);
        walk(x, 1, 3, 3);
        x.boots(1, 1);
        walk(x, 1, 3);
        due(25, "w's first by v, and v's behind it", x.forged(), 2);
        due(26, "the first", x.forgery(0), 1);
        due(26, "the second", x.forgery(1), 3);
        due(26, "no third", x.forgery(2), -2);
        due(26, "forgery(-1)", x.forgery(-1), -1);
        due(26, "far off", x.forgery(FAR_RIGHT), -2);
        x.fox(5, 3, 1);
        due(25, "blurred ones aren't", x.forged(), 1);
        x.undo();
        x.fall(1);
        due(25, "covered ones aren't", x.forged(), 0);
        x.thaw(1);
        due(25, "bare again", x.forged(), 2);
        x.thaw(10);
        due(25, "all gone", x.forged(), 0);

        x = told("field 8 1;tree 4 0;ice 1 0;farm f 0 0 0 0;walker w f 9 1 7 0;walker v f 9 2 0 0;");
        x.boots(0, 1);
        walk(x, 0, 3);
        due(25, "a tree within the gait of whom it looks", x.forged(), 0);
        x = told("field 8 1;ice 4 0;farm f 0 0 0 0;walker w f 9 1 7 0;walker v f 9 1 0 0;");
        x.boots(0, 1);
        walk(x, 0, 3);
        due(25, "ice a step too far", x.forged(), 1);
        walk(x, 0, 3);
        due(25, "ice beside, a mark beside", x.forgery(0), 0);
        due(25, "only that", x.forged(), 1);
    }

    private static void trails() {
        SnowScore x = told("field 8 2;farm f 0 0 0 0;walker w f 9 2 0 0;walker v f 9 1 7 0;");
        walk(x, 0, 1, 1, 1, 1, 1, 2);
        due(27, "three, two steps apart", x.trail(2), 3);
        due(28, "itself", x.trailed(2, 0), 2);
        due(28, "the one ahead", x.trailed(2, 1), 1);
        due(28, "the first", x.trailed(2, 2), 0);
        due(28, "no so many", x.trailed(2, 3), -2);
        due(28, "far off", x.trailed(2, FAR_RIGHT), -2);
        due(28, "trailed(2, -1)", x.trailed(2, -1), -1);
        due(28, "trailed(3, 0)", x.trailed(3, 0), -1);
        due(27, "trail(3)", x.trail(3), -1);
        due(27, "trail(-1)", x.trail(-1), -1);
        x.boots(1, 0);
        walk(x, 1, 3);
        due(27, "from 6 it goes to the one at 13, two steps off", x.trailed(3, 1), 2);
        x.boots(1, 1);
        walk(x, 1, 3);
        due(27, "of v's looks there is one", x.trail(4), 1);
        x.fall(9);
        due(27, "under snow, too", x.trail(3), 4);
        x = told(ROW.replace("walker v g 10", "walker v g 30") + "law fade 19*(far=2);");
        walk(x, 0, 1, 1, 1);
        x.hours(2);
        due(27, "gone", x.trail(1), -1);
        due(28, "gone", x.trailed(1, 0), -1);
        due(27, "a gone one is passed over: too far", x.trail(2), 1);
    }

    // ---- ways that leave least

    private static void quietWays() {
        SnowScore x = told("field 3 3;farm f 0 0 2 2;walker w f 9 1 0 0;");
        due(29, "NEW", x.quiet(0, 8, 0), 4);
        due(29, "STEPS", x.quiet(0, 8, 1), 4);
        int[] rightFirst = {0, 1, 2, 5, 8};
        for (int k = 0; k < 5; k++) {
            due(30, "hushed(0, 8, " + k + ")", x.hushed(0, 8, k), rightFirst[k]);
        }
        due(30, "up is ahead of left", x.hushed(8, 0, 1), 5);
        due(30, "hushed(0, 8, 5)", x.hushed(0, 8, 5), -2);
        due(30, "hushed(0, 8, -1)", x.hushed(0, 8, -1), -1);
        due(30, "hushed(0, 8, far off)", x.hushed(0, 8, FAR_RIGHT), -2);
        walk(x, 0, 2, 2, 1, 1);
        due(29, "over marks", x.quiet(0, 8, 0), 0);
        due(30, "down", x.hushed(0, 8, 1), 3);
        due(29, "a longer way leaves less", x.quiet(0, 5, 0), 1);
        due(29, "its STEPS", x.quiet(0, 5, 1), 5);
        due(29, "the first cell isn't new", x.quiet(2, 8, 0), 1);
        due(29, "to itself, NEW", x.quiet(1, 1, 0), 0);
        due(29, "to itself, STEPS", x.quiet(1, 1, 1), 0);
        due(30, "to itself, the cell", x.hushed(1, 1, 0), 1);
        due(30, "to itself, no more", x.hushed(1, 1, 1), -2);
        x.fox(0, 2, 3);
        due(29, "blurred ones are read", x.quiet(0, 8, 0), 0);
        x.fall(1);
        due(29, "covered ones aren't", x.quiet(0, 8, 0), 4);
        due(29, "quiet(9, 0, 0)", x.quiet(9, 0, 0), -1);
        due(29, "quiet(0, 9, 0)", x.quiet(0, 9, 0), -1);
        due(29, "quiet(-1, 0, 0)", x.quiet(-1, 0, 0), -1);
        due(29, "quiet(0, -1, 0)", x.quiet(0, -1, 0), -1);
        due(29, "quiet(0, 8, 2)", x.quiet(0, 8, 2), -1);
        due(29, "quiet(0, 8, -1)", x.quiet(0, 8, -1), -1);
        due(30, "hushed(9, 0, 0)", x.hushed(9, 0, 0), -1);
        due(30, "hushed(0, -1, 0)", x.hushed(0, -1, 0), -1);

        // Three steps over new snow, or five over a tree and ice.
        x = told("field 4 3;tree 0 1;ice 0 2;ice 1 2;tree 2 2;ice 3 2;tree 3 1;");
        due(29, "by trees and ice: NEW", x.quiet(0, 3, 0), 1);
        due(29, "by trees and ice: STEPS", x.quiet(0, 3, 1), 7);
        due(30, "by trees and ice: the first", x.hushed(0, 3, 1), 4);
    }

    // ---- when to go

    private static void coveredHours() {
        SnowScore x = told("cast 50 20 100 1 " + often("0 ", 19) + "25;");
        due(31, "50 of 100, above", x.covered(0, 1, 0), 1);
        due(31, "50 of 100, below", x.covered(0, 1, 1), 2);
        due(31, "by 2, above", x.covered(0, 2, 0), 3);
        due(31, "by 2, below", x.covered(0, 2, 1), 5);
        due(31, "sure, above", x.covered(1, 4, 0), 1);
        due(31, "sure, below", x.covered(1, 4, 1), 1);
        due(31, "1 of 100 by 4, above", x.covered(3, 4, 0), 1);
        due(31, "1 of 100 by 4, below", x.covered(3, 4, 1), 100);
        due(31, "the last hour, above", x.covered(23, 4, 0), 1);
        due(31, "the last hour, below", x.covered(23, 4, 1), 4);
        due(31, "none, above", x.covered(5, 3, 0), 0);
        due(31, "none, below", x.covered(5, 3, 1), 1);
        due(31, "hour 24", x.covered(24, 1, 0), -1);
        due(31, "hour -1", x.covered(-1, 1, 0), -1);
        due(31, "k 0", x.covered(0, 0, 0), -1);
        due(31, "k 5", x.covered(0, 5, 0), -1);
        due(31, "what 2", x.covered(0, 1, 2), -1);
        due(31, "what -1", x.covered(0, 1, -1), -1);
        x = told("cast 1 3 7 9;");
        due(31, "in least terms already, above", x.covered(0, 4, 0), 100000000 - 99 * 97 * 93 * 91);
        due(31, "in least terms already, below", x.covered(0, 4, 1), 100000000);
    }

    private static void bestHours() {
        SnowScore x = told("cast 10 40 40 0 39 41 100;");
        due(32, "the first of several", x.best(0, 3, 1), 1);
        due(32, "by 2", x.best(0, 3, 2), 1);
        due(32, "the last", x.best(0, 5, 1), 5);
        due(32, "a sure one within k", x.best(0, 23, 4), 3);
        due(32, "one alone", x.best(7, 7, 1), 7);
        due(32, "all alike", x.best(7, 23, 4), 7);
        due(32, "best(1, 0, 1)", x.best(1, 0, 1), -1);
        due(32, "best(-1, 0, 1)", x.best(-1, 0, 1), -1);
        due(32, "best(0, 24, 1)", x.best(0, 24, 1), -1);
        due(32, "best(0, 0, 0)", x.best(0, 0, 0), -1);
        due(32, "best(0, 0, 5)", x.best(0, 0, 5), -1);
    }

    private static void rests() {
        // By 2 from hour 0: 6000, 10000, 10000.
        SnowScore x = told("cast 50 20 100;");
        due(33, "rests(0, 3)", x.rests(0, 3), 3);
        due(34, "the first", x.rest(0, 3, 0), 0);
        due(34, "the second", x.rest(0, 3, 1), 101);
        due(34, "the third", x.rest(0, 3, 2), 202);
        due(34, "no fourth", x.rest(0, 3, 3), -2);
        due(34, "k -1", x.rest(0, 3, -1), -1);
        // By 2 from hour 0: 2000, 6000, 5000: half of 6000 is more than 2000.
        x = told("cast 0 20 50;");
        due(33, "it pays to wait", x.rests(0, 3), 1);
        due(34, "both wait", x.rest(0, 3, 0), 101);
        x = told("cast 0 0 0;");
        due(33, "nothing falls: all", x.rests(18, 6), 36);
        due(34, "the last one", x.rest(18, 6, 35), 2323);
        due(33, "one hour", x.rests(23, 1), 1);
        due(34, "one hour", x.rest(23, 1, 0), 2323);
        due(33, "rests(23, 2)", x.rests(23, 2), -1);
        due(33, "rests(24, 1)", x.rests(24, 1), -1);
        due(33, "rests(-1, 1)", x.rests(-1, 1), -1);
        due(33, "rests(0, 0)", x.rests(0, 0), -1);
        due(33, "rests(0, 7)", x.rests(0, 7), -1);
        due(34, "rest(19, 6, 0)", x.rest(19, 6, 0), -1);
        due(33, "rests(0, far off)", x.rests(0, FAR_RIGHT), -1);
        // By 2 from hour 0: 2700, 5401: half of that is 2700 when cut, no more than at once.
        x = told("cast 0 27 37;");
        due(33, "alike when cut", x.rests(0, 2), 2);
        due(34, "neither waits", x.rest(0, 2, 0), 0);
    }

    // ---- umpires

    private static void sights() {
        SnowScore x = told("field 5 3;tree 3 1;ice 1 1;");
        due(35, "over ice, up to a tree", x.sees(5), 1L | 1 << 5 | 1 << 6 | 1 << 7 | 1 << 10);
        due(35, "beside the tree", x.sees(9), 1L << 4 | 1 << 9 | 1 << 14);
        due(35, "above the tree", x.sees(3), 1L | 1 << 1 | 1 << 2 | 1 << 3 | 1 << 4);
        due(35, "from a tree", x.sees(8), -1);
        due(35, "from ice", x.sees(6), 1L << 1 | 1 << 5 | 1 << 6 | 1 << 7 | 1 << 11);
        due(35, "sees(15)", x.sees(15), -1);
        due(35, "sees(-1)", x.sees(-1), -1);
        x = told("field 8 6;");
        due(35, "beyond 32 bits", x.sees(47), 0xffL << 40 | 1L << 39 | 1L << 31 | 1L << 23 | 1L << 15 | 1L << 7);
    }

    private static void umpires() {
        SnowScore x = told("field 3 3;tree 1 1;");
        due(36, "nothing to see", x.umpires(0), 0);
        due(37, "nothing to see", x.umpire(0, 0), -2);
        due(36, "one", x.umpires(1L << 2), 1);
        due(37, "the first by numbers", x.umpire(1L << 2, 0), 0);
        due(36, "the ring", x.umpires(0x1ef), 2);
        due(37, "the ring, the first", x.umpire(0x1ef, 0), 0);
        due(37, "the ring, the second", x.umpire(0x1ef, 1), 8);
        due(37, "no third", x.umpire(0x1ef, 2), -2);
        due(37, "far off", x.umpire(0x1ef, FAR_RIGHT), -2);
        due(37, "k -1", x.umpire(0x1ef, -1), -1);
        due(36, "a tree", x.umpires(1L << 4), -1);
        due(37, "a tree", x.umpire(1L << 4, 0), -1);
        due(36, "behind the field", x.umpires(1L << 9), -1);
        due(36, "below 0", x.umpires(-1), -1);
        due(36, "below 0, one bit", x.umpires(Long.MIN_VALUE), -1);
        x = told("field 8 6;");
        long corners = 1L | 1L << 9 | 1L << 18;
        due(36, "three in a slant", x.umpires(corners), 2);
        due(37, "the first two", x.umpire(corners, 0) * 100 + x.umpire(corners, 1), 0 * 100 + 10);
        long slant = corners | 1L << 27 | 1L << 36;
        due(36, "five in a slant", x.umpires(slant), 3);
        due(37, "the first of three", x.umpire(slant, 0), 0);
        due(37, "the second of three", x.umpire(slant, 1), 10);
        due(37, "the third of three", x.umpire(slant, 2), 28);
        due(36, "all", x.umpires((1L << 48) - 1), -2);
        due(37, "all", x.umpire((1L << 48) - 1, 0), -2);
    }

    // ---- what lies below

    private static void belows() {
        SnowScore x = told(ROW);
        walk(x, 0, 1, 1);
        x.fall(5);
        walk(x, 1, 3);
        due(38, "now", x.below(0), 1);
        due(38, "not yet", x.below(4), 1);
        due(38, "laid bare", x.below(5), 3);
        due(38, "the light one is gone", x.below(10), 2);
        due(38, "deeper", x.below(24), 2);
        due(38, "all gone", x.below(25), 0);
        due(38, "below(999)", x.below(999), 0);
        due(38, "below(1000)", x.below(1000), -1);
        due(38, "below(-1)", x.below(-1), -1);
        due(38, "nothing thawed", x.count(8) * 100 + x.count(6), 305);
    }

    private static void layers() {
        SnowScore x = told(ROW);
        due(39, "none", x.layers(), 0);
        due(40, "none", x.layer(0), -2);
        walk(x, 0, 1);
        x.fall(3);
        walk(x, 0, 1, 1);
        x.fall(2);
        walk(x, 1, 3);
        due(39, "three", x.layers(), 3);
        due(40, "the least first", x.layer(0), 0);
        due(40, "the second", x.layer(1), 2);
        due(40, "the third", x.layer(2), 5);
        due(40, "no fourth", x.layer(3), -2);
        due(40, "far off", x.layer(FAR_RIGHT), -2);
        due(40, "layer(-1)", x.layer(-1), -1);
        x.thaw(11);
        due(39, "gone ones lie in none", x.layers(), 1);
        due(40, "bare", x.layer(0), 0);
    }

    // ---- tried otherwise

    private static void chances() {
        SnowScore x = told(ROW);
        walk(x, 0, 1, 1);
        due(41, "at least 0", x.chance(0, 1, 1, 0), 10);
        // From 0 on: 0 fall, 9988 thaw, 3498 fall, 2 nothing ..: ten nights of their own, one row of numbers.
        due(41, "one night each", x.chance(0, 1, 1, 2), oneNightEach(0));
        due(41, "from another seed", x.chance(123456, 1, 1, 1), oneNightEach(123456));
        due(41, "too much", x.chance(0, 1, 1, 3), 0);
        due(41, "nothing changed", x.count(5) * 1000 + x.count(6) * 100 + x.count(9), 2);
        due(41, "seed -1", x.chance(-1, 1, 1, 0), -1);
        due(41, "the last seed", x.chance(FAR_RIGHT, 9, 1, 0), 10);
        due(41, "n 0", x.chance(0, 0, 1, 0), -1);
        due(41, "n 10", x.chance(0, 10, 1, 0), -1);
        due(41, "farm 2", x.chance(0, 1, 2, 0), -1);
        due(41, "farm -1", x.chance(0, 1, -1, 0), -1);
        due(41, "bound -1", x.chance(0, 1, 1, -1), -1);
        due(41, "bound 9999", x.chance(0, 1, 1, 9999), 0);
        due(41, "bound 10000", x.chance(0, 1, 1, 10000), -1);
        int night = x.night();
        due(41, "the night's own numbers are untouched", night, 4);
    }

    /** A night behind the last hour there is none, so neither are draws with such ones. */
    private static void chancesAtTheLastHours() {
        SnowScore x = told(ROW + "law fade 0;");
        for (int i = 0; i < 100; i++) {
            x.hours(99);
        }
        x.hours(89);
        walk(x, 0, 1, 1);
        due(41, "nine nights to 9998", x.chance(0, 9, 1, 0), 10);
        x.hours(1);
        due(41, "nine nights to 9999", x.chance(0, 9, 1, 0), 10);
        due(41, "one night at 9990", x.chance(0, 1, 1, 2), oneNightEach(0));
        x.hours(1);
        due(41, "the ninth night would be behind 9999", x.chance(0, 9, 1, 0), -1);
        due(41, "too much, and behind 9999", x.chance(0, 9, 1, 9999), -1);
        due(41, "the eighth night is to 9999", x.chance(0, 8, 1, 0), 10);
        x.hours(7);
        due(41, "two nights behind 9998", x.chance(0, 2, 1, 0), -1);
        due(41, "one night behind 9998", x.chance(0, 1, 1, 2), oneNightEach(0));
        due(41, "nothing changed", x.count(5) * 1000 + x.count(6) * 100 + x.count(9), 9998002);
        x.keep();
        due(16, "the last night", x.night(), 4);
        due(41, "no night behind 9999", x.chance(0, 1, 1, 0), -1);
        due(41, "nor nine", x.chance(FAR_RIGHT, 9, 1, 9999), -1);
        x.winter();
        due(41, "a winter's end gives no hours", x.chance(0, 1, 1, 0), -1);
        x.back();
        due(41, "an image of 9998 does", x.chance(0, 1, 1, 2), oneNightEach(0));
    }

    /** In how many of ten nights no snow falls. */
    private static int oneNightEach(long seed) {
        int bare = 0;
        long number = seed;
        for (int i = 0; i < 10; i++) {
            number = (number * 1103515245L + 12345) % (1L << 31);
            long kind = number / 65536 % 3;
            if (kind != 2) {
                number = (number * 1103515245L + 12345) % (1L << 31);
            }
            bare += kind == 0 ? 0 : 1;
        }
        return bare;
    }

    private static void trials() {
        SnowScore x = told(ROW + "law score 1+snow*10;");
        walk(x, 0, 1, 1);
        x.boots(1, 0);
        walk(x, 1, 3);
        x.fall(2);
        x.boots(0, 1);
        walk(x, 0, 1);
        x.fox(3, 0, 1);
        due(42, "now nothing scores", x.score(1, 0), 0);
        due(42, "without COVER", x.tried(1, 0, 0), 3 * 21);
        due(42, "without w's looks", x.tried(1, 1, 0), 0);
        due(42, "none blurred", x.tried(1, 2, 0), 0);
        due(42, "each as whose it is", x.tried(1, 3, 0), 0);
        due(42, "a thaw of 2: SNOW is less", x.tried(1, 4, 2), 3);
        due(42, "a thaw of 0", x.tried(1, 4, 0), 0);
        due(42, "a thaw of 12: v's is gone", x.tried(1, 4, 12), 2);
        due(42, "a thaw of 99", x.tried(1, 4, 99), 0);
        x.thaw(2);
        due(42, "bare: w's and the forged one", x.score(1, 0), 3);
        due(42, "each as whose it is, now", x.tried(1, 3, 0), 2);
        x.undo();
        due(42, "tried(2, 0, 0)", x.tried(2, 0, 0), -1);
        due(42, "tried(-1, 0, 0)", x.tried(-1, 0, 0), -1);
        due(42, "tried(1, 5, 0)", x.tried(1, 5, 0), -1);
        due(42, "tried(1, -1, 0)", x.tried(1, -1, 0), -1);
        due(42, "tried(1, 0, 1)", x.tried(1, 0, 1), -1);
        due(42, "tried(1, 2, 1)", x.tried(1, 2, 1), -1);
        due(42, "tried(1, 3, -1)", x.tried(1, 3, -1), -1);
        due(42, "tried(1, 1, 2)", x.tried(1, 1, 2), -1);
        due(42, "tried(1, 1, -1)", x.tried(1, 1, -1), -1);
        due(42, "tried(1, 4, 100)", x.tried(1, 4, 100), -1);
        due(42, "tried(1, 4, -1)", x.tried(1, 4, -1), -1);
        due(42, "nothing changed", x.score(1, 0), 3);

        x = told(ROW);
        walk(x, 0, 1);
        x.fox(1, 0, 1);
        due(42, "none blurred, one read", x.tried(1, 2, 0), 1);
        x = told(ROW);
        walk(x, 0, 1);
        x.boots(0, 1);
        walk(x, 0, 1, 3);
        due(42, "what lies under another's", x.tried(1, 1, 1), 1);
        due(42, "as it is", x.score(1, 0), 0);
    }

    // ---- undone, images

    private static void undone() {
        SnowScore x = told(TWO);
        walk(x, 0, 1);
        x.boots(0, 1);
        walk(x, 0, 3, 1);
        due(43, "what can be undone", x.count(13), 4);
        x.fox(1, 1, 1);
        due(43, "undo a fox", x.undo(), 4);
        due(43, "not blurred", x.read(1), 1);
        due(43, "undo a step", x.undo(), 3);
        due(43, "where it was", x.look(0, 0) * 10 + x.look(0, 2), 2);
        due(43, "its mark is off the list", x.count(7), 2);
        due(43, "undo another", x.undo(), 2);
        due(43, "undo boots", x.undo(), 1);
        due(43, "own boots", x.look(0, 3), 0);
        due(43, "undo the first", x.undo(), 0);
        due(43, "none", x.undo(), -1);
        due(43, "no marks", x.count(7), 0);
        x.step(0, 0);
        x.boots(0, 0);
        x.fox(0, 1, 8);
        due(43, "what did nothing", x.count(13), 0);

        x = told(ROW);
        for (int i = 0; i < 12; i++) {
            walk(x, 0, 1, 3);
        }
        due(43, "20 at most", x.count(13), 20);
        for (int i = 19; i >= 0; i--) {
            due(43, "undo of 20", x.undo(), i);
        }
        due(43, "no more", x.undo(), -1);
        due(43, "four steps stay", x.look(0, 2) * 10 + x.count(7), 44);
        for (int kind = 0; kind < 6; kind++) {
            walk(x, 0, 1);
            switch (kind) {
                case 0 -> x.hours(1);
                case 1 -> x.fall(1);
                case 2 -> x.thaw(1);
                case 3 -> x.night();
                case 4 -> x.winter();
                default -> {
                    x.keep();
                    due(43, "an image hinders none", x.count(13), 1);
                    x.back();
                }
            }
            due(43, "none behind " + kind, x.undo(), -1);
        }
        walk(x, 0, 3);
        x.hours(0);
        x.hours(-1);
        x.fall(0);
        x.thaw(0);
        x.claim(0, 0, 0, 0);
        due(43, "what didn't happen hinders none", x.undo(), 0);
    }

    private static void images() {
        SnowScore x = told(ROW + "law deep 50;");
        due(45, "no image", x.back(), -1);
        x.hours(2);
        walk(x, 0, 1, 1);
        x.boots(0, 1);
        x.fox(1, 0, 1);
        x.fall(3);
        x.winter();
        walk(x, 0, 1);
        x.boots(0, 1);
        x.fall(1);
        due(44, "keep()", x.keep(), 2);
        x.hours(9);
        x.thaw(9);
        x.boots(0, 0);
        walk(x, 0, 1);
        x.claim(0, 0, 0, 0);
        x.known(0);
        x.winter();
        int night = x.night();
        due(45, "back()", x.back(), 2);
        int[] values = {8, 1, 2, 2, 1, 2, 1, 1, 1, 0, 1, 1, 0, 0};
        for (int what = 0; what < values.length; what++) {
            due(45, "count(" + what + ") behind back", x.count(what), values[what]);
        }
        due(45, "a debt", x.score(1, 1), 0);
        due(45, "where it was", x.look(0, 0), 1);
        due(45, "steps", x.look(0, 2), 1);
        due(45, "boots", x.look(0, 3), 1);
        due(45, "DEEP", x.mark(0, 4), 50);
        due(45, "COVER", x.mark(0, 5), 1);
        due(45, "the numbers", x.night(), night);
        due(45, "back() again", x.back(), 2);
        x.hours(1);
        due(44, "in place of the one ahead", x.keep(), 3);
        x.hours(1);
        due(45, "the later one", x.back(), 3);
    }

    private static void counts() {
        SnowScore x = told("field 7 3;farm f 0 0 6 2;farm g 0 0 3 2;walker w f 30 1 0 0;walker v g 8 1 6 2;walker u g 8 1 6 2;"
            + "law fade 2+age;");
        x.winter();
        x.hours(4);
        x.fall(6);
        walk(x, 0, 1, 1, 3, 1);
        walk(x, 1, 3);
        x.thaw(8);
        x.claim(0, 0, 0, 0);
        x.strike(0);
        x.known(1);
        walk(x, 0, 2);
        x.boots(0, 1);
        int[] values = {7, 3, 2, 3, 3, 4, 0, 6, 5, 3, 1, 2, 1, 2};
        for (int what = 0; what < values.length; what++) {
            due(46, "count(" + what + ")", x.count(what), values[what]);
        }
        due(46, "count(14)", x.count(14), -1);
        due(46, "count(-1)", x.count(-1), -1);
        due(46, "count(far off)", x.count(FAR_LEFT), -1);
    }
}
