import java.util.List;

/** The sentences on texts: what it is, the first part of the terms, promises 1 to 5. */
final class TextEdges extends Telling {
    private static final String FARM = "farm f 0 0 0 0;";
    private static final String[] LINE_WORDS = {"field", "tree", "ice", "farm", "walker", "cast", "seed", "law"};
    private static final String[] KINDS = {"deep", "fade", "score"};
    private static final String[] NAMES = {"weight", "gait", "far", "deep", "age", "snow", "own"};
    private static final String[] LANGUAGE = {"field", "tree", "ice", "farm", "walker", "cast", "seed", "law", "deep",
        "fade", "score", "or", "and", "not", "weight", "gait", "far", "age", "snow", "own"};
    private static final String[] COMPARING = {"<", "<=", "=", "<>", ">=", ">"};

    private TextEdges() {
    }

    static void run(Edges e) {
        e.sentence("0", "An object is used for at most 512 calls after it has been made; what later calls answer is free.",
            TextEdges::lastOfManyCalls);
        lines(e);
        expressions(e);
        bounds(e);
        faults(e);
        promises(e);
    }

    private static void lines(Edges e) {
        e.sentence("T1", "A TEXT: { LINE ';' }.", TextEdges::linesAndSemicolons);
        e.sentence("T1", "LINE: field N N | tree N N | ice N N | farm W N N N N | walker W W N N N N | cast N { N } | seed N"
            + " | law KIND E.", TextEdges::tooFewAndTooMany);
        e.sentence("T1", "LINE:", TextEdges::beginningsOfLines);
        e.sentence("T1", "KIND: deep | fade | score.", TextEdges::kindsOfLaws);
        e.sentence("T1", "Words: small letters in a row;", TextEdges::smallLetters);
        e.sentence("T1", "W: one of 1 .. 6 letters,", TextEdges::lengthOfNames);
        e.sentence("T1", "none of those of the language;", TextEdges::namesOfTheLanguage);
        e.sentence("T1", "N: digits.", TextEdges::digits);
        e.sentence("T1", "Blanks 10, 32.", TextEdges::blanks);
    }

    private static void expressions(Edges e) {
        e.sentence("T1", "E: A { or A }.", TextEdges::ors);
        e.sentence("T1", "A: B { and B }.", TextEdges::ands);
        e.sentence("T1", "B: not B | C.", TextEdges::nots);
        e.sentence("T1", "C: S [ ( < | <= | = | <> | >= | > ) S ].", TextEdges::comparisons);
        e.sentence("T1", "S: T { ( + | - ) T }.", TextEdges::sums);
        e.sentence("T1", "T: P { ( * | / ) P }.", TextEdges::products);
        e.sentence("T1", "P: N | NAME | '(' E ')';", TextEdges::operands);
        e.sentence("T1", "N of E 0 .. 9999.", TextEdges::numbersOfE);
        e.sentence("T1", "NAME: weight gait far deep age snow own.", TextEdges::namesOfE);
        e.sentence("T1", "A = (or > behind <) right behind < or > belongs to it.", TextEdges::signsOfTwo);
    }

    private static void bounds(Edges e) {
        e.sentence("T1", "field: WIDE 1 .. 8, HIGH 1 .. 6", TextEdges::wideAndHigh);
        e.sentence("T1", "(6 and 5 without)", TextEdges::noField);
        e.sentence("T1", "ahead of all lines with CELLS;", TextEdges::fieldAhead);
        e.sentence("T1", "CELLS are x, y below these,", TextEdges::cellsBelow);
        e.sentence("T1", "numbered y times WIDE and x.", TextEdges::cellNumbers);
        e.sentence("T1", "TREES, at most 12,", TextEdges::twelveTrees);
        e.sentence("T1", "ICE, at most 12:", TextEdges::twelveOfIce);
        e.sentence("T1", "a CELL that is neither yet.", TextEdges::neitherYet);
        e.sentence("T1", "FARMS, at most 3:", TextEdges::threeFarms);
        e.sentence("T1", "CELLS from x, y to x, y (neither below the first)", TextEdges::cornersOfFarms);
        e.sentence("T1", "are its GROUND from then on (in place of another one's).", TextEdges::groundsInPlace);
        e.sentence("T1", "WALKERS, at most 5: a FARM,", TextEdges::fiveWalkers);
        e.sentence("T1", "WEIGHT 1 .. 60,", TextEdges::weights);
        e.sentence("T1", "GAIT 1 .. 3,", TextEdges::gaits);
        e.sentence("T1", "a HOME CELL.", TextEdges::homes);
        e.sentence("T1", "cast: odds of snow of a hundred 0 .. 100", TextEdges::odds);
        e.sentence("T1", "for HOURS 0, 1 and so on, 1 .. 24 of them", TextEdges::hoursOfCast);
        e.sentence("T1", "(0 of all others).", TextEdges::othersOfCast);
        e.sentence("T1", "seed: 0 .. 99999 (0).", TextEdges::seeds);
        e.sentence("T1", "All numbered as they come;", TextEdges::numberedAsTheyCome);
        e.sentence("T1", "FARMS, WALKERS have names of their kind.", TextEdges::namesOfTheirKind);
    }

    private static void faults(Edges e) {
        e.sentence("T1", "FAULTS, the first along the text", TextEdges::firstAlong);
        e.sentence("T1", "(of one place the least), with its place:", TextEdges::leastOfOnePlace);
        e.sentence("T1", "1 a TOKEN that is none (a word of more than 6 letters that isn't of the language, too)",
            TextEdges::tokensThatAreNone);
        e.sentence("T1", "or can't stand there", TextEdges::tokensThatCannotStand);
        e.sentence("T1", "(the length, if more must come).", TextEdges::moreMustCome);
        e.sentence("T1", "2 too much (at it): a number beyond what is said,", TextEdges::numbersBeyond);
        e.sentence("T1", "a 13th tree and so on (at the word of the LINE;", TextEdges::oneTooMany);
        e.sentence("T1", "a 25th number of cast at it),", TextEdges::twentyFifthNumber);
        e.sentence("T1", "a ninth '(' open,", TextEdges::ninthOpen);
        e.sentence("T1", "a 65th KNOT of all E (N, NAMES, signs, not, and, or: one each).", TextEdges::sixtyFifthKnot);
        e.sentence("T1", "3 told already: a name of its kind (at W),", TextEdges::namesToldAlready);
        e.sentence("T1", "a CELL that is a TREE or ICE (at y),", TextEdges::cellsToldAlready);
        e.sentence("T1", "field, cast, seed (at the word),", TextEdges::wordsToldAlready);
        e.sentence("T1", "a law of its KIND (at KIND).", TextEdges::lawsToldAlready);
        e.sentence("T1", "4 a FARM that isn't told ahead (at W),", TextEdges::farmsNotTold);
        e.sentence("T1", "field behind a line with CELLS (at the word).", TextEdges::fieldBehindCells);
    }

    private static void promises(Edges e) {
        e.sentence("1", "A TEXT without LINES: a field of 6 by 5;", TextEdges::newObject);
        e.sentence("1", "an empty TAPE.", TextEdges::emptyTape);
        e.sentence("2", "Twenty bytes come behind the TAPE,", TextEdges::bytesComeBehind);
        e.sentence("2", "four of each number, the highest first: how many it has;", TextEdges::highestFirst);
        e.sentence("2", "NONE, and none come, if it would have more than 700.", TextEdges::fullTape);
        e.sentence("3", "The TAPE's first n bytes", TextEdges::firstBytes);
        e.sentence("3", "(it is empty then) are the TEXT", TextEdges::emptyThen);
        e.sentence("3", "are the TEXT", TextEdges::nothingIsLeft);
        e.sentence("3", "(HOUR 0, no MARKS, no DEBTS, no CLAIMS, all KNOWN, no IMAGE, nothing to undo then):",
            TextEdges::allBegins);
        e.sentence("3", "how many LINES;", TextEdges::howManyLines);
        e.sentence("3", "NONE with a FAULT, all stays;", TextEdges::allStays);
        e.sentence("3", "-2, and the TAPE stays: there are not so many, n is below 0.", TextEdges::notSoMany);
        e.sentence("4", "Of the latest text() that was not -2,", TextEdges::latestText);
        e.sentence("4", "what 0: its FAULT (0), 1: its place (NONE without).", TextEdges::withoutFault);
        e.sentence("4", "NONE for another what.", TextEdges::noSuchFault);
        e.sentence("5", "The number of a FARM (what 0), WALKER (1) by its letters, 5 bits each (a is 1; the first one highest"
            + " of six, 0 behind the last one);", TextEdges::names);
        e.sentence("5", "NONE: there is none such.", TextEdges::noSuchName);
    }

    // ---- what it is

    private static void lastOfManyCalls(Edges e) {
        SnowScore x = new SnowScore();
        int calls = 0;
        for (int i = 0; i < 101; i++) {
            x.hours(99);
            calls++;
        }
        for (int i = 0; i < 101; i++) {
            x.fall(99);
            calls++;
        }
        while (calls < 300) {
            x.winter();
            calls++;
        }
        tell(x, FARM + "walker w f 1 1 0 0;walker v f 1 1 0 0;");
        calls += 4;
        while (calls < 511) {
            e.due("call " + (calls + 1), x.boots(0, (calls + 1) % 2), true);
            calls++;
        }
        e.due("the 512th", x.undo(), 19);
    }

    // ---- lines

    private static void linesAndSemicolons(Edges e) {
        e.good("", 0);
        e.good(" \n ", 0);
        e.good("seed 1;", 1);
        e.good("seed 1 ; cast 0 ; ", 2);
        e.fault("seed 1", 1, 6);
        e.fault("seed 1;cast 0", 1, 13);
        e.fault(";", 1, 0);
        e.fault("seed 1;;", 1, 7);
        e.fault("seed 1 cast 0;", 1, 7);
        // As many lines as there can be.
        e.good("field 8 6;" + kindLines("tree", 12, 0) + kindLines("ice", 12, 2) + farmLines(3) + walkerLines(5)
            + "cast 1;seed 1;law deep 1;law fade 1;law score 1;", 38);
    }

    /** So many of a kind from a row of the field on, eight in each. */
    private static String kindLines(String word, int size, int row) {
        StringBuilder all = new StringBuilder();
        for (int i = 0; i < size; i++) {
            all.append(word).append(' ').append(i % 8).append(' ').append(row + i / 8).append(';');
        }
        return all.toString();
    }

    private static String farmLines(int size) {
        StringBuilder all = new StringBuilder();
        for (int i = 0; i < size; i++) {
            all.append("farm ").append((char) ('f' + i)).append(" 0 0 0 0;");
        }
        return all.toString();
    }

    private static String walkerLines(int size) {
        StringBuilder all = new StringBuilder();
        for (int i = 0; i < size; i++) {
            all.append("walker ").append((char) ('s' + i)).append(" f 1 1 0 0;");
        }
        return all.toString();
    }

    private static void tooFewAndTooMany(Edges e) {
        e.fault("field;", 1, 5);
        e.fault("field 1;", 1, 7);
        e.fault("field 1 1 1;", 1, 10);
        e.fault("field f 1;", 1, 6);
        e.fault("tree;", 1, 4);
        e.fault("tree 0;", 1, 6);
        e.fault("tree 0 0 0;", 1, 9);
        e.fault("ice;", 1, 3);
        e.fault("ice 0;", 1, 5);
        e.fault("ice 0 0 0;", 1, 8);
        e.fault("farm;", 1, 4);
        e.fault("farm 0 0 0 0;", 1, 5);
        e.fault("farm f;", 1, 6);
        e.fault("farm f 0 0 0;", 1, 12);
        e.fault("farm f 0 0 0 0 0;", 1, 15);
        e.fault("farm f g 0 0 0 0;", 1, 7);
        String walker = "walker w f 1 1 0 0";
        int[] ends = {6, 8, 10, 12, 14, 16};
        for (int end : ends) {
            e.fault(FARM + walker.substring(0, end) + ";", 1, 15 + end);
        }
        e.fault(FARM + walker + " 0;", 1, 15 + 19);
        e.fault(FARM + "walker w f f 1 1 0 0;", 1, 15 + 11);
        e.fault("cast;", 1, 4);
        e.fault("cast 1 f;", 1, 7);
        e.fault("seed;", 1, 4);
        e.fault("seed 1 1;", 1, 7);
        e.fault("law;", 1, 3);
        e.fault("law deep;", 1, 8);
        e.fault("law deep 1 1;", 1, 11);
    }

    private static void beginningsOfLines(Edges e) {
        for (String word : LANGUAGE) {
            boolean begins = isOneOf(word, LINE_WORDS);
            e.fault(word + ";", 1, begins ? word.length() : 0);
            e.fault("seed 1;" + word + " (", word.equals("seed") ? 3 : 1, begins && !word.equals("seed")
                ? 8 + word.length() : 7);
        }
        for (String none : new String[] {"f", "fiel", "fields", "trees", "1", "(", ")", "<", "=", "+", "-", "*", "/", "<>"}) {
            e.fault(none + " 1 1;", 1, 0);
        }
    }

    private static boolean isOneOf(String word, String[] words) {
        return List.of(words).contains(word);
    }

    private static void kindsOfLaws(Edges e) {
        for (String kind : KINDS) {
            e.good("law " + kind + " 1;", 1);
        }
        for (String word : LANGUAGE) {
            if (!isOneOf(word, KINDS)) {
                e.fault("law " + word + " 1;", 1, 4);
            }
        }
        for (String none : new String[] {"f", "1", "(deep)", "deeps", "fad", ";"}) {
            e.fault("law " + none + " 1;", 1, 4);
        }
    }

    private static void smallLetters(Edges e) {
        SnowScore x = told("farm az 0 0 0 0;farm za 0 0 0 0;");
        e.due("az", x.named(0, letters("az")), 0);
        e.due("za", x.named(0, letters("za")), 1);
        e.fault("farm ` 0 0 0 0;", 1, 5);
        e.fault("farm { 0 0 0 0;", 1, 5);
        e.fault("farm a` 0 0 0 0;", 1, 6);
        e.fault("farm z{ 0 0 0 0;", 1, 6);
        e.fault("farm A 0 0 0 0;", 1, 5);
        e.fault("farm fG 0 0 0 0;", 1, 6);
        e.fault("Seed 1;", 1, 0);
        e.fault("seeD 1;", 1, 0);
        e.fault("se ed 1;", 1, 0);
        e.fault("farm f g 0 0 0 0;", 1, 7);
        // A word ends where its letters end.
        e.good("farm f0 0 0 0;seed1;law deep(1)and(2);", 3);
    }

    private static void lengthOfNames(Edges e) {
        e.good("farm f 0 0 0 0;walker w f 1 1 0 0;", 2);
        e.good("farm abcdef 0 0 0 0;walker zzzzzz abcdef 1 1 0 0;", 2);
        e.fault("farm abcdefg 0 0 0 0;", 1, 5);
        e.fault("farm " + often("a", 33) + " 0 0 0 0;", 1, 5);
        e.fault(FARM + "walker abcdefg f 1 1 0 0;", 1, 22);
        e.fault("farm abcdef 0 0 0 0;walker w abcdefg 1 1 0 0;", 1, 29);
        e.fault("farm 0 0 0 0;", 1, 5);
    }

    private static void namesOfTheLanguage(Edges e) {
        for (String word : LANGUAGE) {
            e.fault("farm " + word + " 0 0 0 0;", 1, 5);
            e.fault(FARM + "walker " + word + " f 1 1 0 0;", 1, 22);
            e.fault(FARM + "walker w " + word + " 1 1 0 0;", 1, 24);
        }
        e.good("farm fields 0 0 0 0;farm o 0 0 0 0;farm ando 0 0 0 0;walker nots o 1 1 0 0;", 4);
        // One letter makes another word of it, whichever it is.
        for (String word : LANGUAGE) {
            for (int i = 0; i < word.length(); i++) {
                String other = word.substring(0, i) + "q" + word.substring(i + 1);
                e.good("farm " + other + " 0 0 0 0;walker " + other + " " + other + " 1 1 0 0;", 2);
            }
            e.good("farm " + word.substring(1) + "q 0 0 0 0;", 1);
        }
    }

    private static void digits(Edges e) {
        e.good("seed 0;", 1);
        e.good("seed 99999;", 1);
        e.good("seed 00000000000000000000000099999;", 1);
        e.good("cast 000 0100;", 1);
        e.fault("seed -1;", 1, 5);
        e.fault("seed +1;", 1, 5);
        e.fault("seed 1.5;", 1, 6);
        e.fault("seed 0x1;", 1, 6);
        e.fault("seed 1/;", 1, 6);
        e.fault("seed /;", 1, 5);
        e.fault("seed :;", 1, 5);
        e.fault("seed 1:;", 1, 6);
        // Numbers that would wrap around to small ones.
        e.fault("seed 4294967297;", 2, 5);
        e.fault("seed 18446744073709551617;", 2, 5);
        e.fault("seed " + often("9", 200) + ";", 2, 5);
        e.fault("field 4294967298 1;", 2, 6);
        e.fault("law deep 4294967296;", 2, 9);
    }

    private static void blanks(Edges e) {
        for (int b = 0; b < 256; b++) {
            String text = "seed" + (char) b + "1;";
            if (b == 10 || b == 32 || b >= '0' && b <= '9') {
                e.good(text, 1);
            } else {
                e.fault(text, 1, b >= 'a' && b <= 'z' ? 0 : 4);
            }
        }
        e.good("\n \n seed\n\n1 \n;\n", 1);
    }

    // ---- expressions

    /** The value of an E, or Long.MIN_VALUE. */
    private static long value(String e) {
        return told(FARM + "walker w f 20 1 0 0;law deep " + e + ";").law(2, 0);
    }

    private static void ors(Edges e) {
        e.due("0 or 0", value("0 or 0"), 0);
        e.due("0 or 2 or 0", value("0 or 2 or 0"), 1);
        e.due("and goes first", value("1 or 0 and 0"), 1);
        e.due("and goes first, behind", value("0 and 0 or 1"), 1);
        e.fault("law deep or 1;", 1, 9);
        e.fault("law deep 1 or;", 1, 13);
        e.fault("law deep 1 or or 1;", 1, 14);
        e.fault("law deep 1 or and 1;", 1, 14);
    }

    private static void ands(Edges e) {
        e.due("1 and 2 and 3", value("1 and 2 and 3"), 1);
        e.due("1 and 0 and 3", value("1 and 0 and 3"), 0);
        e.due("not goes first", value("not 0 and 0"), 0);
        e.due("comparisons go first", value("1 and 2<1"), 0);
        e.fault("law deep and 1;", 1, 9);
        e.fault("law deep 1 and;", 1, 14);
        e.fault("law deep 1 and or 1;", 1, 15);
    }

    private static void nots(Edges e) {
        e.due("not not not 0", value("not not not 0"), 1);
        e.due("not of a comparison", value("not 2<1"), 1);
        e.due("not of a sum", value("not 0+1"), 0);
        e.due("behind and", value("1 and not 0"), 1);
        e.due("behind or", value("0 or not 0"), 1);
        e.due("in a side, by ( )", value("1+(not 0)"), 2);
        for (String sign : new String[] {"<", "<=", "=", "<>", ">=", ">", "+", "-", "*", "/"}) {
            e.fault("law deep 1" + sign + "not 0;", 1, 10 + sign.length());
            e.fault("law deep not 1" + sign + "not 0;", 1, 14 + sign.length());
        }
        e.fault("law deep not;", 1, 12);
        e.fault("law deep not and 1;", 1, 13);
        e.fault("law deep 1 not 1;", 1, 11);
    }

    private static void comparisons(Edges e) {
        long[] less = {1, 1, 0, 1, 0, 0};
        long[] alike = {0, 1, 1, 0, 1, 0};
        long[] more = {0, 0, 0, 1, 1, 1};
        for (int i = 0; i < COMPARING.length; i++) {
            e.due("less by " + COMPARING[i], value("1" + COMPARING[i] + "2"), less[i]);
            e.due("alike by " + COMPARING[i], value("2" + COMPARING[i] + "2"), alike[i]);
            e.due("more by " + COMPARING[i], value("3" + COMPARING[i] + "2"), more[i]);
            e.due("sums go first", value("1+1" + COMPARING[i] + "4-2"), alike[i]);
            e.fault("law deep " + COMPARING[i] + "1;", 1, 9);
            e.fault("law deep 1" + COMPARING[i] + ";", 1, 10 + COMPARING[i].length());
            for (String second : COMPARING) {
                e.fault("law deep 1" + COMPARING[i] + "1" + second + "1;", 1, 11 + COMPARING[i].length());
                e.fault("law deep 1" + COMPARING[i] + "1+1*1 " + second + "1;", 1, 16 + COMPARING[i].length());
            }
        }
        e.due("one each at and, or", value("1<2 and 2<3 or 3<2"), 1);
        e.due("one each by ( )", value("(1<2)<(3<2)"), 0);
    }

    private static void sums(Edges e) {
        e.due("from the left", value("9-3-2"), 4);
        e.due("from the left, + too", value("9-3+2"), 8);
        e.due("products go first", value("9-2*3"), 3);
        e.fault("law deep -1;", 1, 9);
        e.fault("law deep +1;", 1, 9);
        e.fault("law deep 1+;", 1, 11);
        e.fault("law deep 1--1;", 1, 11);
        e.fault("law deep (-1);", 1, 10);
    }

    private static void products(Edges e) {
        e.due("from the left", value("99/7/2"), 7);
        e.due("from the left, * too", value("7/2*2"), 6);
        e.due("( ) go first", value("7/(2*2)"), 1);
        e.fault("law deep *1;", 1, 9);
        e.fault("law deep 1/;", 1, 11);
        e.fault("law deep 1*/1;", 1, 11);
        e.fault("law deep 1//1;", 1, 11);
    }

    private static void operands(Edges e) {
        e.due("a number", value("7"), 7);
        e.due("a name", value("weight"), 20);
        e.due("an E", value("((7))"), 7);
        // All that an E can be stands between '(' and ')', too, and more behind it.
        String[] es = {"0 or 1", "1 and 1", "not 0", "1<2", "1<=2", "1=1", "1<>2", "2>=1", "2>1", "3-2", "0+1", "1*1", "3/2"};
        for (String one : es) {
            e.due("(" + one + ")", value("(" + one + ")"), 1);
            e.due("(" + one + ")+5", value("(" + one + ")+5"), 6);
            e.due("5-(" + one + ")*2", value("5-(" + one + ")*2"), 3);
            e.due("not (" + one + ")", value("not (" + one + ")"), 0);
            e.due("((" + one + ")<2)=1", value("((" + one + ")<2)=1"), 1);
            e.due("0 or (" + one + ") and 1", value("0 or (" + one + ") and 1"), 1);
        }
        e.fault("law deep ;", 1, 9);
        e.fault("law deep ();", 1, 10);
        e.fault("law deep (1;", 1, 11);
        e.fault("law deep ((1);", 1, 13);
        e.fault("law deep 1);", 1, 10);
        e.fault("law deep (1));", 1, 12);
        e.fault("law deep );", 1, 9);
        e.fault("law deep 1 (1);", 1, 11);
        e.fault("law deep (1)(1);", 1, 12);
        e.fault("law deep (1) 1;", 1, 13);
        e.fault("law deep weight weight;", 1, 16);
    }

    private static void numbersOfE(Edges e) {
        e.due("0", value("0"), 0);
        e.due("9999", value("9999"), 9999);
        e.due("009999", value("009999"), 9999);
        e.fault("law deep 10000;", 2, 9);
        e.fault("law deep 1+10000;", 2, 11);
        e.fault("law fade (99999999999);", 2, 10);
    }

    private static void namesOfE(Edges e) {
        for (String name : NAMES) {
            e.good("law deep " + name + ";law fade " + name + ";law score " + name + ";", 3);
        }
        for (String word : LANGUAGE) {
            if (!isOneOf(word, NAMES) && !word.equals("not")) {
                e.fault("law deep " + word + ";", 1, 9);
            }
        }
        e.fault("law deep f;", 1, 9);
        e.fault(FARM + "law deep f;", 1, 24);
        e.fault("law deep weights;", 1, 9);
    }

    private static void signsOfTwo(Edges e) {
        e.due("<=", value("2<=2"), 1);
        e.due(">=", value("2>=2"), 1);
        e.due("<>", value("2<>2"), 0);
        e.fault("law deep 1< =2;", 1, 12);
        e.fault("law deep 1> =2;", 1, 12);
        e.fault("law deep 1< >2;", 1, 12);
        e.fault("law deep 1<\n=2;", 1, 12);
        e.fault("law deep 1><2;", 1, 11);
        e.fault("law deep 1>>2;", 1, 11);
        e.fault("law deep 1<<2;", 1, 11);
        e.fault("law deep 1=<2;", 1, 11);
        e.fault("law deep 1=>2;", 1, 11);
        e.fault("law deep 1==2;", 1, 11);
        e.fault("law deep 1<==2;", 1, 12);
        e.fault("law deep 1<>=2;", 1, 12);
        e.due("one knot", told("law deep 1<=2;").count(4), 3);
        SnowScore x = new SnowScore();
        put(x, "law deep 1<=2;");
        e.due("cut within <=", x.text(11), -1);
        e.due("the length", x.fault(1), 11);
    }

    // ---- bounds

    private static void wideAndHigh(Edges e) {
        for (int wide = 1; wide <= 8; wide++) {
            for (int high = 1; high <= 6; high++) {
                SnowScore x = told("field " + wide + " " + high + ";");
                e.due("WIDE", x.count(0), wide);
                e.due("HIGH", x.count(1), high);
                e.due("its last cell", x.cell(wide * high - 1, 1), 0);
                e.due("no more", x.cell(wide * high, 1), -2);
            }
        }
        e.fault("field 0 1;", 2, 6);
        e.fault("field 9 1;", 2, 6);
        e.fault("field 1 0;", 2, 8);
        e.fault("field 1 7;", 2, 8);
        e.fault("field 8 8;", 2, 8);
    }

    private static void noField(Edges e) {
        SnowScore x = told("field 2 2;");
        tell(x, "seed 1;");
        e.due("WIDE", x.count(0), 6);
        e.due("HIGH", x.count(1), 5);
        e.good("tree 5 4;", 1);
        e.fault("tree 6 4;", 2, 5);
        e.fault("tree 5 5;", 2, 7);
    }

    private static void fieldAhead(Edges e) {
        e.good("cast 1;seed 1;law deep 1;law fade 1;law score 1;field 8 6;tree 7 5;", 7);
        e.fault("tree 0 0;field 1 1;", 4, 9);
        e.fault("ice 0 0;field 1 1;", 4, 8);
        e.fault(FARM + "field 1 1;", 4, 15);
        e.fault(FARM + "walker w f 1 1 0 0;field 1 1;", 4, 34);
    }

    private static void cellsBelow(Edges e) {
        String field = "field 3 2;";
        e.good(field + "tree 2 1;", 2);
        e.fault(field + "tree 3 1;", 2, 15);
        e.fault(field + "tree 2 2;", 2, 17);
        e.good(field + "ice 2 1;", 2);
        e.fault(field + "ice 3 1;", 2, 14);
        e.fault(field + "ice 2 2;", 2, 16);
        e.good(field + "farm f 2 1 2 1;", 2);
        e.fault(field + "farm f 3 0 3 0;", 2, 17);
        e.fault(field + "farm f 0 2 0 2;", 2, 19);
        e.fault(field + "farm f 0 0 3 0;", 2, 21);
        e.fault(field + "farm f 0 0 0 2;", 2, 23);
        e.good(field + FARM + "walker w f 1 1 2 1;", 3);
        e.fault(field + FARM + "walker w f 1 1 3 1;", 2, 40);
        e.fault(field + FARM + "walker w f 1 1 2 2;", 2, 42);
        e.good("field 1 1;tree 0 0;", 2);
        e.fault("field 1 1;tree 1 0;", 2, 15);
    }

    private static void cellNumbers(Edges e) {
        SnowScore x = told("field 3 2;tree 2 0;ice 0 1;farm f 1 1 2 1;walker w f 1 1 2 1;");
        int[] kinds = {0, 0, 1, 2, 0, 0};
        int[] grounds = {-1, -1, -1, -1, 0, 0};
        for (int cell = 0; cell < 6; cell++) {
            e.due("what is in " + cell, x.cell(cell, 1), kinds[cell]);
            e.due("whose is " + cell, x.cell(cell, 0), grounds[cell]);
        }
        e.due("a home", x.look(0, 4), 5);
        e.due("the last of the widest", told("field 8 6;tree 7 5;").cell(47, 1), 1);
    }

    private static void twelveTrees(Edges e) {
        e.good("field 8 6;" + kindLines("tree", 12, 0), 13);
        e.fault("field 8 6;" + kindLines("tree", 12, 0) + "tree 0 5;", 2, 10 + 12 * 9);
        e.good("field 8 6;" + kindLines("tree", 12, 0) + "ice 0 5;", 14);
    }

    private static void twelveOfIce(Edges e) {
        e.good("field 8 6;" + kindLines("ice", 12, 0), 13);
        e.fault("field 8 6;" + kindLines("ice", 12, 0) + "ice 0 5;", 2, 10 + 12 * 8);
        e.good("field 8 6;" + kindLines("ice", 12, 0) + "tree 0 5;", 14);
    }

    private static void neitherYet(Edges e) {
        e.fault("tree 0 0;tree 0 0;", 3, 16);
        e.fault("ice 0 0;ice 0 0;", 3, 14);
        e.fault("tree 5 4;ice 5 4;", 3, 15);
        e.fault("ice 5 4;tree 5 4;", 3, 15);
        e.good("tree 1 2;ice 2 1;tree 1 1;ice 2 2;", 4);
        // A text behind begins with none.
        SnowScore x = told("tree 0 0;");
        e.due("in another text", tell(x, "ice 0 0;"), 1);
        e.due("it is ice", x.cell(0, 1), 2);
        for (int i = 0; i < 3; i++) {
            e.due("twelve of both again", tell(x, "field 8 6;" + kindLines("tree", 12, 0) + kindLines("ice", 12, 2)), 25);
        }
    }

    private static void threeFarms(Edges e) {
        e.good(farmLines(3), 3);
        e.fault(farmLines(4), 2, 45);
        e.due("three", told(farmLines(3)).count(2), 3);
        e.due("none", told("seed 1;").count(2), 0);
    }

    private static void cornersOfFarms(Edges e) {
        e.good("farm f 2 2 2 2;", 1);
        e.good("farm f 0 0 5 4;", 1);
        e.fault("farm f 2 2 1 2;", 2, 11);
        e.fault("farm f 2 2 2 1;", 2, 13);
        e.fault("farm f 5 4 0 0;", 2, 11);
        SnowScore x = told("field 4 3;farm f 1 1 2 2;");
        int[] grounds = {-1, -1, -1, -1, -1, 0, 0, -1, -1, 0, 0, -1};
        for (int cell = 0; cell < 12; cell++) {
            e.due("whose is " + cell, x.cell(cell, 0), grounds[cell]);
        }
    }

    private static void groundsInPlace(Edges e) {
        SnowScore x = told("field 4 1;farm f 0 0 3 0;farm g 1 0 2 0;farm h 2 0 2 0;");
        int[] grounds = {0, 1, 2, 0};
        for (int cell = 0; cell < 4; cell++) {
            e.due("whose is " + cell, x.cell(cell, 0), grounds[cell]);
        }
        x = told("field 2 1;farm f 0 0 0 0;farm g 0 0 1 0;");
        e.due("all of f's is g's", x.cell(0, 0), 1);
        tell(x, "field 2 1;");
        e.due("nobody's behind another text", x.cell(0, 0), -1);
    }

    private static void fiveWalkers(Edges e) {
        e.good(FARM + walkerLines(5), 6);
        e.fault(FARM + walkerLines(6), 2, 15 + 5 * 19);
        e.due("five", told(FARM + walkerLines(5)).count(3), 5);
        e.fault("walker w f 1 1 0 0;", 4, 9);
        e.fault("walker w f 1 1 0 0;" + FARM, 4, 9);
        e.due("its farm", told(farmLines(3) + "walker w h 1 1 0 0;").look(0, 1), 2);
    }

    private static void weights(Edges e) {
        e.fault(FARM + "walker w f 0 1 0 0;", 2, 26);
        e.fault(FARM + "walker w f 61 1 0 0;", 2, 26);
        e.due("1", told(FARM + "walker w f 1 1 0 0;law deep weight;").law(2, 0), 1);
        e.due("60", told(FARM + "walker w f 60 1 0 0;law deep weight;").law(2, 0), 60);
    }

    private static void gaits(Edges e) {
        e.fault(FARM + "walker w f 1 0 0 0;", 2, 28);
        e.fault(FARM + "walker w f 1 4 0 0;", 2, 28);
        for (int gait = 1; gait <= 3; gait++) {
            e.due("a gait", told(FARM + "walker w f 1 " + gait + " 0 0;law deep gait;").law(2, 0), gait);
        }
    }

    private static void homes(Edges e) {
        e.due("0 0", told(FARM + "walker w f 1 1 0 0;").look(0, 4), 0);
        e.due("5 4", told(FARM + "walker w f 1 1 5 4;").look(0, 4), 29);
        e.fault(FARM + "walker w f 1 1 6 0;", 2, 30);
        e.fault(FARM + "walker w f 1 1 0 5;", 2, 32);
        e.good("tree 0 0;ice 1 0;" + FARM + "walker w f 1 1 0 0;walker v f 1 1 1 0;walker u f 1 1 1 0;", 6);
    }

    private static void odds(Edges e) {
        SnowScore x = told("cast 0 100 1 99;");
        e.due("0, above", x.covered(0, 1, 0), 0);
        e.due("100, above", x.covered(1, 1, 0), 1);
        e.due("100, below", x.covered(1, 1, 1), 1);
        e.due("1, below", x.covered(2, 1, 1), 100);
        e.due("99, above", x.covered(3, 1, 0), 99);
        e.fault("cast 101;", 2, 5);
        e.fault("cast 0 101;", 2, 7);
        e.fault("cast " + often("0 ", 23) + "101;", 2, 5 + 46);
    }

    private static void hoursOfCast(Edges e) {
        e.fault("cast;", 1, 4);
        e.good("cast 1;", 1);
        e.good("cast " + often("1 ", 24) + ";", 1);
        e.fault("cast " + often("1 ", 25) + ";", 2, 5 + 48);
        SnowScore x = told("cast " + often("0 ", 23) + "50;");
        e.due("HOUR 22", x.covered(22, 1, 0), 0);
        e.due("HOUR 23", x.covered(23, 1, 0), 1);
    }

    private static void othersOfCast(Edges e) {
        SnowScore x = told("cast 50;");
        e.due("HOUR 0", x.covered(0, 1, 0), 1);
        for (int hour = 1; hour < 24; hour++) {
            e.due("HOUR " + hour, x.covered(hour, 1, 0), 0);
        }
        tell(x, "seed 1;");
        e.due("HOUR 0 without cast", x.covered(0, 1, 0), 0);
        e.due("all HOURS without cast", x.best(0, 23, 4), 0);
    }

    private static void seeds(Edges e) {
        e.fault("seed 100000;", 2, 5);
        // (0 and 12345) by 65536 is 0: a fall; the number behind it is 21468, modulo 9 it is 3.
        e.due("without: as of 0", told("cast 1;").night(), told("seed 0;").night());
        e.due("without: a fall of 4", told("cast 1;").night(), 4);
        e.due("99999", told("seed 99999;").night(), Numbers.night(99999));
        SnowScore x = told("seed 1;");
        tell(x, "cast 1;");
        e.due("without, behind a text with one", x.night(), 4);
    }

    private static void numberedAsTheyCome(Edges e) {
        SnowScore x = told("farm z 0 0 0 0;walker y z 1 1 1 0;farm b 0 0 0 0;walker a b 1 1 2 0;farm a 0 0 0 0;");
        e.due("farm z", x.named(0, letters("z")), 0);
        e.due("farm b", x.named(0, letters("b")), 1);
        e.due("farm a", x.named(0, letters("a")), 2);
        e.due("walker y", x.named(1, letters("y")), 0);
        e.due("walker a", x.named(1, letters("a")), 1);
        e.due("home of y", x.look(0, 4), 1);
        e.due("home of a", x.look(1, 4), 2);
    }

    private static void namesOfTheirKind(Edges e) {
        SnowScore x = told("farm f 0 0 0 0;walker f f 1 1 0 0;");
        e.due("a farm", x.named(0, letters("f")), 0);
        e.due("a walker", x.named(1, letters("f")), 0);
        e.good("farm f 0 0 0 0;walker g f 1 1 0 0;farm g 0 0 0 0;", 3);
        e.fault("farm f 0 0 0 0;walker w f 1 1 0 0;walker v w 1 1 0 0;", 4, 43);
    }

    // ---- faults

    private static void firstAlong(Edges e) {
        e.fault("seed 100000;seed 1 1;?", 2, 5);
        e.fault("seed 1 1;seed 100000;", 1, 7);
        e.fault("tree 0 0;field 9 9;walker", 4, 9);
        e.fault("tree 6 9;", 2, 5);
        e.fault("tree 0 0;tree 0 0 0;", 3, 16);
        e.fault("farm f 9 9 9 9", 2, 7);
        e.fault("law deep 10000+", 2, 9);
        e.fault("law deep 1+?10000", 1, 11);
        e.fault("seed 1;seed ?", 3, 7);
    }

    private static void leastOfOnePlace(Edges e) {
        // Told already, and behind a line with cells.
        e.fault("field 2 2;tree 0 0;field 2 2;", 3, 19);
        // No token of E there, and a 65th knot.
        e.fault("law deep " + often("not ", 63) + "1 not;", 1, 9 + 63 * 4 + 2);
        e.fault("law deep " + often("1+", 31) + "1+*;", 1, 9 + 62 + 2);
        // A second comparison, and a 65th knot.
        e.fault("law deep " + often("not ", 61) + "1<1<;", 1, 9 + 61 * 4 + 3);
        // A number that can't stand there, and is beyond all that is said.
        e.fault("seed 1 99999999;", 1, 7);
        e.fault("law deep 1 10000;", 1, 11);
        // A '(' that can't stand there, and is the ninth.
        e.fault("law deep ((((((((1(", 1, 18);
    }

    private static void tokensThatAreNone(Edges e) {
        e.fault("?", 1, 0);
        e.fault("seed 1;\t", 1, 7);
        e.fault("seed 1;\r\n", 1, 7);
        e.fault("seed 1;\0", 1, 7);
        e.fault("seed 1;" + (char) 255, 1, 7);
        e.fault("law deep 1!=2;", 1, 10);
        e.fault("law deep 1,2;", 1, 10);
        e.fault("law deep [1];", 1, 9);
        e.fault("walkers 1;", 1, 0);
        e.fault("fieldfield 1 1;", 1, 0);
        e.fault("farm abcdefg 0 0 0 0;", 1, 5);
        e.fault("law deep weightt;", 1, 9);
        e.fault("seed 1 abcdefgh;", 1, 7);
    }

    private static void tokensThatCannotStand(Edges e) {
        e.fault("seed f;", 1, 5);
        e.fault("seed seed 1;", 1, 5);
        e.fault("seed (1);", 1, 5);
        e.fault("cast 1 (;", 1, 7);
        e.fault("cast 1 seed 1;", 1, 7);
        e.fault("tree 0 f;", 1, 7);
        e.fault("farm < 0 0 0 0;", 1, 5);
        e.fault("law deep 1;)", 1, 11);
        e.fault("law deep law;", 1, 9);
        e.fault("law deep seed 1;", 1, 9);
    }

    private static void moreMustCome(Edges e) {
        e.fault("seed", 1, 4);
        e.fault("seed ", 1, 5);
        e.fault("seed 1", 1, 6);
        e.fault("seed 1 \n ", 1, 9);
        e.fault("field 1", 1, 7);
        e.fault("farm", 1, 4);
        e.fault("farm f", 1, 6);
        e.fault("farm f 0 0 0 0", 1, 14);
        e.fault(FARM + "walker w", 1, 23);
        e.fault("cast", 1, 4);
        e.fault("cast 1", 1, 6);
        e.fault("cast " + often("1 ", 24), 1, 53);
        e.fault("law", 1, 3);
        e.fault("law deep", 1, 8);
        e.fault("law deep 1", 1, 10);
        e.fault("law deep (1", 1, 11);
        e.fault("law deep not", 1, 12);
        e.fault("law deep 1+", 1, 11);
        SnowScore x = new SnowScore();
        put(x, "seed 1;");
        e.due("the first six bytes", x.text(6), -1);
        e.due("their length, not the tape's", x.fault(1), 6);
        put(x, "seed 1" + often(" ", 693) + ";");
        e.due("699 bytes", x.text(699), -1);
        e.due("their length", x.fault(1), 699);
        put(x, "seed 1" + often(" ", 693) + ";");
        e.due("all 700", x.text(700), 1);
    }

    private static void numbersBeyond(Edges e) {
        e.fault("field 9 1;", 2, 6);
        e.fault("tree 6 0;", 2, 5);
        e.fault("ice 0 5;", 2, 6);
        e.fault("farm f 0 0 6 0;", 2, 11);
        e.fault("farm f 1 1 0 1;", 2, 11);
        e.fault(FARM + "walker w f 61 1 0 0;", 2, 26);
        e.fault("cast 101;", 2, 5);
        e.fault("seed 100000;", 2, 5);
        e.fault("law score 10000;", 2, 10);
    }

    private static void oneTooMany(Edges e) {
        String field = "field 8 6;";
        e.fault(field + kindLines("tree", 12, 0) + "tree", 2, 10 + 108);
        e.fault(field + kindLines("tree", 12, 0) + "tree 0 0;", 2, 10 + 108);
        e.fault(field + kindLines("ice", 12, 0) + "ice", 2, 10 + 96);
        e.fault(farmLines(3) + "farm", 2, 45);
        e.fault(farmLines(3) + "farm f 9", 2, 45);
        e.fault(FARM + walkerLines(5) + "walker", 2, 110);
        e.fault(FARM + walkerLines(5) + "walker s g", 2, 110);
    }

    private static void twentyFifthNumber(Edges e) {
        e.fault("cast " + often("1 ", 24) + "0;", 2, 53);
        e.fault("cast " + often("1 ", 24) + "999", 2, 53);
        e.fault("cast " + often("1 ", 24) + "f;", 1, 53);
        e.fault("cast " + often("1 ", 30) + ";", 2, 53);
    }

    private static void ninthOpen(Edges e) {
        e.good("law deep " + often("(", 8) + "1" + often(")", 8) + ";", 1);
        e.fault("law deep " + often("(", 9) + "1" + often(")", 9) + ";", 2, 17);
        e.fault("law deep " + often("(", 9), 2, 17);
        e.fault("law deep 1+" + often("(1+", 8) + "(", 2, 9 + 2 + 24);
        // Those that are closed aren't open, nor are those of another law.
        String eight = often("(", 8) + "1" + often(")", 8);
        e.good("law deep " + eight + "+" + eight + ";law fade " + eight + ";", 2);
        e.good("law deep " + often("(1)+", 20) + "1;", 1);
        e.fault("law deep " + eight + "+" + often("(", 9), 2, 9 + 17 + 1 + 8);
    }

    private static void sixtyFifthKnot(Edges e) {
        e.due("64 of not", told("law deep " + often("not ", 63) + "1;").count(4), 64);
        e.fault("law deep " + often("not ", 64) + "1;", 2, 9 + 64 * 4);
        e.due("63 of + and numbers", told("law deep " + often("1+", 31) + "1;").count(4), 63);
        e.fault("law deep " + often("1+", 32) + "1;", 2, 9 + 64);
        e.fault("law deep not " + often("1*", 31) + "1/1;", 2, 13 + 63);
        e.due("names, and", told("law deep " + often("own and ", 31) + "own;").count(4), 63);
        e.fault("law deep not " + often("own or ", 31) + "own or own;", 2, 13 + 31 * 7 + 4);
        e.due("signs of two", told("law deep 1<=2 and 1<>2 or 1>=2;").count(4), 11);
        e.due("'(' is none", told("law deep ((1)+(1));").count(4), 3);
        // Of all laws in sum.
        String law = often("1+", 10) + "1;";
        e.due("63 of three", told("law deep " + law + "law fade " + law + "law score " + law).count(4), 63);
        e.due("64 of three", told("law deep not " + law + "law fade " + law + "law score " + law).count(4), 64);
        e.fault("law deep not not " + law + "law fade " + law + "law score " + law, 2, 9 + 8 + 22 + 9 + 22 + 10 + 20);
        // A text behind begins with none.
        SnowScore x = told("law deep " + often("not ", 63) + "1;");
        for (int i = 0; i < 5; i++) {
            e.due("64 again", tell(x, FARM + "walker w f 1 1 0 0;law deep " + often("not ", 63) + "1;"), 3);
            e.due("64 again: the value", x.law(2, 0), 0);
            e.due("62 of another value", tell(x, FARM + "walker w f 1 1 0 0;law deep " + often("not ", 62) + "1;"), 3);
            e.due("62 of another value: it", x.law(2, 0), 1);
        }
    }

    private static void namesToldAlready(Edges e) {
        e.fault("farm f 0 0 0 0;farm f 0 0 0 0;", 3, 20);
        e.fault("farm f 0 0 0 0;farm f", 3, 20);
        e.fault("farm a 0 0 0 0;farm b 0 0 0 0;farm a 9", 3, 35);
        e.fault(FARM + "walker w f 1 1 0 0;walker w f 1 1 0 0;", 3, 41);
        e.fault(FARM + "walker w f 1 1 0 0;walker w g", 3, 41);
        e.good("farm a 0 0 0 0;farm aa 0 0 0 0;farm aaa 0 0 0 0;", 3);
        e.good("farm abcde 0 0 0 0;farm abcdef 0 0 0 0;farm bcdef 0 0 0 0;", 3);
    }

    private static void cellsToldAlready(Edges e) {
        e.fault("tree 1 2;tree 1  2;", 3, 17);
        e.fault("tree 1 2;ice 1  2;", 3, 16);
        e.fault("ice 1 2;ice 1 2", 3, 14);
        e.fault("ice 1 2;tree 1 2", 3, 15);
        e.fault("ice 1 2;tree 1 5;", 2, 15);
    }

    private static void wordsToldAlready(Edges e) {
        e.fault("field 1 1;field 1 1;", 3, 10);
        e.fault("field 1 1;field", 3, 10);
        e.fault("cast 1;cast 1;", 3, 7);
        e.fault("cast 1; cast", 3, 8);
        e.fault("seed 1;seed 1;", 3, 7);
        e.fault("seed 1;\nseed", 3, 8);
        SnowScore x = told("field 1 1;cast 1;seed 1;law deep 1;");
        e.due("in another text", tell(x, "field 1 1;cast 1;seed 1;law deep 1;"), 4);
    }

    private static void lawsToldAlready(Edges e) {
        for (String kind : KINDS) {
            e.fault("law " + kind + " 1;law " + kind + " 1;", 3, 11 + kind.length());
            e.fault("law " + kind + " 1;law " + kind, 3, 11 + kind.length());
        }
        e.good("law deep 1;law score 1;law fade 1;", 3);
    }

    private static void farmsNotTold(Edges e) {
        e.fault("walker w f 1 1 0 0;", 4, 9);
        e.fault("walker w f", 4, 9);
        e.fault("walker w f 1 1 0 0;" + FARM, 4, 9);
        e.fault(FARM + "walker w ff 1 1 0 0;", 4, 24);
        e.fault(FARM + "walker w g 0 9 9 9;", 4, 24);
        SnowScore x = told(FARM);
        e.due("told in a text ahead", tell(x, "walker w f 1 1 0 0;"), -1);
        e.due("that is none", x.fault(0), 4);
    }

    private static void fieldBehindCells(Edges e) {
        e.fault("tree 0 0;field 2 2;", 4, 9);
        e.fault("tree 0 0;  field", 4, 11);
        e.fault("seed 1;ice 0 0;cast 1;field 9 9;", 4, 22);
    }

    // ---- promises 1 to 5

    private static void newObject(Edges e) {
        SnowScore x = new SnowScore();
        int[] counts = {6, 5, 0, 0, 0, 0, 0, 0, 0, 0, 0, 0, 0, 0};
        for (int what = 0; what < counts.length; what++) {
            e.due("count(" + what + ")", x.count(what), counts[what]);
        }
        for (int cell = 0; cell < 30; cell++) {
            e.due("whose is " + cell, x.cell(cell, 0), -1);
            e.due("what is in " + cell, x.cell(cell, 1), 0);
        }
        e.due("no more cells", x.cell(30, 0), -2);
        e.due("no walker", thrown(x, 0, 0), 1);
        e.due("no image", x.back(), -1);
        e.due("nothing to undo", x.undo(), -1);
        e.due("all are known", x.judged(), -1);
        e.due("a night by seed 0", x.night(), 4);
    }

    private static void emptyTape(Edges e) {
        SnowScore x = new SnowScore();
        e.due("text(1)", x.text(1), -2);
        e.due("text(0)", x.text(0), 0);
        e.due("the first feed", x.feed(0, 0, 0, 0, 0), 20);
    }

    private static void bytesComeBehind(Edges e) {
        SnowScore x = new SnowScore();
        for (int i = 1; i <= 35; i++) {
            int lastSign = i == 35 ? ';' : ' ';
            int first = i == 1 ? 0x73656564 : 0x20202020;
            int second = i == 2 ? 0x20202037 : 0x20202020;
            e.due("feed " + i, x.feed(first, second, 0x20202020, 0x20202020, 0x20202000 | lastSign), 20L * i);
        }
        e.due("seed, 7, ; in a row", x.text(700), 1);
        e.due("the seed", x.night(), Numbers.night(7));
    }

    private static void highestFirst(Edges e) {
        SnowScore x = new SnowScore();
        // "farm", " abc", "def ", "0 1 ", "2 3;"
        e.due("twenty", x.feed(0x6661726d, 0x20616263, 0x64656620, 0x30203120, 0x3220333b), 20);
        e.due("all five numbers", x.text(20), 1);
        e.due("a name over two of them", x.named(0, letters("abcdef")), 0);
        e.due("from 0, 1", x.cell(6, 0), 0);
        e.due("to 2, 3", x.cell(20, 0), 0);
        // A number below 0 has its bytes, too.
        x.feed(0x73656564, 0x20313bff, 0x80000000, 0xffffffff, Edges.FAR_LEFT);
        e.due("a byte of 255", x.text(8), -1);
        e.due("its place", x.fault(1), 7);
    }

    private static void fullTape(Edges e) {
        SnowScore x = new SnowScore();
        for (int i = 1; i <= 35; i++) {
            x.feed(0x20202020, 0x20202020, 0x20202020, 0x20202020, 0x20202020);
        }
        e.due("a 36th", x.feed(0x3f3f3f3f, 0x3f3f3f3f, 0x3f3f3f3f, 0x3f3f3f3f, 0x3f3f3f3f), -1);
        e.due("once more", x.feed(0, 0, 0, 0, 0), -1);
        e.due("there are no 701", x.text(701), -2);
        e.due("all of the 700 are blanks", x.text(700), 0);
        e.due("empty again", x.feed(0, 0, 0, 0, 0), 20);
        x = new SnowScore();
        for (int i = 1; i <= 34; i++) {
            x.feed(0, 0, 0, 0, 0);
        }
        e.due("to 700", x.feed(0, 0, 0, 0, 0), 700);
        e.due("beyond 700", x.feed(0, 0, 0, 0, 0), -1);
    }

    private static void firstBytes(Edges e) {
        SnowScore x = new SnowScore();
        put(x, "seed 1;?");
        e.due("all ahead of the wrong one", x.text(7), 1);
        put(x, "seed 1;?");
        e.due("the wrong one, too", x.text(8), -1);
        put(x, "seed 12;");
        e.due("a number that is cut", x.text(6), -1);
        put(x, "?");
        e.due("none of them", x.text(0), 0);
        put(x, "seed 1;");
        e.due("all of the tape", x.text(20), 1);
    }

    private static void emptyThen(Edges e) {
        SnowScore x = new SnowScore();
        put(x, "seed 1;");
        x.text(7);
        e.due("empty behind a text", x.text(1), -2);
        put(x, "seed 1;");
        x.text(0);
        e.due("empty behind none of its bytes", x.text(1), -2);
        put(x, "seed ;");
        x.text(6);
        e.due("empty behind a fault", x.text(1), -2);
        e.due("from the first byte on", x.feed(0, 0, 0, 0, 0), 20);
    }

    private static void allBegins(Edges e) {
        SnowScore x = World.made();
        x.text(0);
        int[] counts = {6, 5, 0, 0, 0, 0, 0, 0, 0, 0, 0, 0, 0, 0};
        for (int what = 0; what < counts.length; what++) {
            e.due("count(" + what + ")", x.count(what), counts[what]);
        }
        x = World.made();
        x.night();
        x.text(0);
        tell(x, World.TEXT);
        e.due("HOUR", x.count(5), 0);
        e.due("SNOW", x.count(6), 0);
        e.due("MARKS", x.count(7), 0);
        e.due("WINTERS", x.count(10), 0);
        e.due("CLAIMS", x.count(11), 0);
        e.due("no DEBT of g", x.score(1, 1), 0);
        e.due("no IMAGE", x.back(), -1);
        e.due("nothing to undo", x.undo(), -1);
        e.due("at HOME", x.look(0, 0) * 10 + x.look(1, 0), 6);
        e.due("without STEPS", x.look(0, 2) + x.look(1, 2), 0);
        e.due("in own BOOTS", x.look(1, 3), 1);
        e.due("the seed anew", x.night(), Numbers.night(7));
        x.claim(0, 0, 0, 0);
        e.due("all KNOWN", x.judged(), 0);
    }

    /** Whatever was told two texts ago and longer: nothing of it is left. */
    private static void nothingIsLeft(Edges e) {
        String all = "field 2 2;tree 0 0;ice 1 1;farm z 0 0 1 1;farm y 0 0 0 0;walker x z 9 3 1 1;cast 99 98 97 96;"
            + "law deep 9+1;law fade 9+2;law score 9+3;seed 9;";
        for (int others = 0; others < 4; others++) {
            SnowScore x = told(all);
            for (int i = 0; i < others; i++) {
                e.due("a text between", tell(x, ""), 0);
            }
            e.due("a text without lines", tell(x, ""), 0);
            for (int what = 0; what < 14; what++) {
                e.due(others + " between, count(" + what + ")", x.count(what), what == 0 ? 6 : what == 1 ? 5 : 0);
            }
            for (int cell = 0; cell < 30; cell++) {
                e.due(others + " between, whose is " + cell, x.cell(cell, 0), -1);
                e.due(others + " between, what is in " + cell, x.cell(cell, 1), 0);
            }
            e.due(others + " between, farm z", x.named(0, letters("z")), -1);
            e.due(others + " between, walker x", x.named(1, letters("x")), -1);
            for (int hour = 0; hour < 24; hour++) {
                e.due(others + " between, HOUR " + hour, x.covered(hour, 1, 0), 0);
            }
            e.due(others + " between, a night", x.night(), Numbers.night(0));
            e.due(others + " between, farm and walker", tell(x, "farm z 0 0 0 0;walker x z 7 1 0 0;"), 2);
            e.due(others + " between, deep", x.law(2, 0), Long.MIN_VALUE);
            walk(x, 0, 1);
            e.due(others + " between, DEEP", x.mark(0, 4), 7);
            e.due(others + " between, fade", x.law(0, 0), Long.MIN_VALUE);
            e.due(others + " between, score", x.law(1, 0), Long.MIN_VALUE);
            e.due(others + " between, told again", tell(x, all), 11);
        }
    }

    private static void howManyLines(Edges e) {
        e.due("none", tell(new SnowScore(), ""), 0);
        e.due("one", tell(new SnowScore(), "seed 1;"), 1);
        e.due("twelve", tell(new SnowScore(), World.TEXT), 12);
        SnowScore x = told(World.TEXT);
        e.due("of this text alone", tell(x, "seed 1;"), 1);
    }

    private static void allStays(Edges e) {
        e.due("a cut word", World.made().text(3), -1);
        e.stays("a cut word", x -> x.text(3));
        String all = "field 2 2;tree 0 0;ice 1 1;farm z 0 0 1 1;walker y z 9 3 1 1;cast 99 98 97 96;"
            + "law deep 9;law fade 9;law score 9;seed 9;";
        SnowScore one = World.made();
        e.due("a second seed at the end", tellBehind(one, all), -1);
        e.due("its fault", one.fault(0), 3);
        e.stays("a second seed at the end", x -> tellBehind(x, all));
        e.stays("a fault of each line", x -> tellBehind(x, "field 9 9;"));
        // A fault amid an E leaves nothing of it to the next text.
        String[] cut = {"law deep 1+2*", "law deep ((((((((1", "law deep not not not", "law fade 1 or 2 and 3<4+5*", "law score (1 or (2 and ?",
            "law deep ((((((((("};
        for (String fault : cut) {
            SnowScore x = told("");
            for (int i = 0; i < 3; i++) {
                e.due(fault, tell(x, fault), -1);
                e.due("good behind it", tell(x, FARM + "walker w f 20 1 0 0;law deep not ((((((((9-7))))))))*2-weight/5 or 0;"), 3);
                e.due("its value", x.law(2, 0), 1);
                e.due("its knots", x.count(4), 12);
            }
        }
        SnowScore often = told("");
        for (int i = 0; i < 20; i++) {
            e.due("eight open, " + i, tell(often, "law deep " + often("(", 8) + "?"), -1);
        }
        e.due("64 knots behind these", tell(often, FARM + "walker w f 20 1 0 0;law deep " + often("not ", 63) + "0;"), 3);
        e.due("their value", often.law(2, 0), 1);
        e.stays("a fault and another", x -> tellBehind(x, "tree 0 0;field 1 1;") + tell(x, "law deep 1;law deep 2;"));
    }

    /** The World's tape has a seed already: the text goes on behind it. */
    private static long tellBehind(SnowScore x, String text) {
        put(x, text);
        return x.text(20 + text.length());
    }

    private static void notSoMany(Edges e) {
        e.refused("one more than there are", x -> x.text(21), -2);
        e.refused("701", x -> x.text(701), -2);
        e.refused("far more", x -> x.text(Edges.FAR_RIGHT), -2);
        e.refused("-1", x -> x.text(-1), -2);
        e.refused("far below 0", x -> x.text(Edges.FAR_LEFT), -2);
        e.due("as many as there are", World.made().text(20), 1);
    }

    private static void latestText(Edges e) {
        SnowScore x = new SnowScore();
        tell(x, "seed;");
        e.due("-2", x.text(1), -2);
        e.due("its fault is the last one's", x.fault(0), 1);
        e.due("its place is the last one's", x.fault(1), 4);
        x.text(-1);
        e.due("below 0, too", x.fault(1), 4);
        tell(x, "field 9 9;");
        e.due("the later fault", x.fault(0) * 100 + x.fault(1), 206);
        tell(x, "seed 1;");
        e.due("none behind a good one", x.fault(0), 0);
        x.text(1);
        e.due("none behind a good one and -2", x.fault(0), 0);
    }

    private static void withoutFault(Edges e) {
        SnowScore x = new SnowScore();
        e.due("no text yet: fault", x.fault(0), 0);
        e.due("no text yet: place", x.fault(1), -1);
        tell(x, "?");
        e.due("a fault", x.fault(0), 1);
        e.due("at place 0", x.fault(1), 0);
        tell(x, "");
        e.due("good: fault", x.fault(0), 0);
        e.due("good: place", x.fault(1), -1);
    }

    private static void noSuchFault(Edges e) {
        e.refusedFor("fault", SnowScore::fault, -1, -1, 2, Edges.FAR_LEFT, Edges.FAR_RIGHT);
        SnowScore x = new SnowScore();
        tell(x, "field 9 9;");
        for (int what : new int[] {-1, 2, 3, Edges.FAR_LEFT, Edges.FAR_RIGHT}) {
            e.due("fault(" + what + ")", x.fault(what), -1);
        }
    }

    private static void names(Edges e) {
        SnowScore x = told("farm a 0 0 0 0;farm z 0 0 0 0;farm abcdez 0 0 0 0;walker zzzzzz a 1 1 0 0;walker ab a 1 1 0 0;");
        e.due("a", x.named(0, 1 << 25), 0);
        e.due("z", x.named(0, 26 << 25), 1);
        e.due("abcdez", x.named(0, 1 << 25 | 2 << 20 | 3 << 15 | 4 << 10 | 5 << 5 | 26), 2);
        e.due("zzzzzz", x.named(1, 26 << 25 | 26 << 20 | 26 << 15 | 26 << 10 | 26 << 5 | 26), 0);
        e.due("ab", x.named(1, 1 << 25 | 2 << 20), 1);
    }

    private static void noSuchName(Edges e) {
        int f = letters("f");
        e.due("there is one", World.made().named(0, f), 0);
        e.refused("a walker's name, of a farm", x -> x.named(0, letters("w")), -1);
        e.refused("a farm's name, of a walker", x -> x.named(1, f), -1);
        e.refusedFor("letters", (x, l) -> x.named(0, l), -1, 0, 6, 6 << 20, f | 1, f | 1 << 20, f | 1 << 30, f | 1 << 31,
            letters("ff"), Edges.FAR_LEFT, Edges.FAR_RIGHT, -1);
        e.refusedFor("what", (x, what) -> x.named(what, f), -1, -1, 2, Edges.FAR_LEFT, Edges.FAR_RIGHT);
        e.due("no farms, no letters", new SnowScore().named(0, 0), -1);
        SnowScore x = told(FARM);
        tell(x, "seed 1;");
        e.due("a farm of a text ahead", x.named(0, f), -1);
    }
}
