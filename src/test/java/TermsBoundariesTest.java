/** The boundaries that the section "Terms" names: each sentence has a test of its own. */
public final class TermsBoundariesTest {
    private static final int LETTER = Make.LETTER;
    private static final int FLAT = Make.FLAT;
    private static final int BULKY = Make.BULKY;
    private static final int NONE = HandCases.NONE;

    private static final Check CHECK = new Check("TermsBoundariesTest");

    public static void main(String[] args) {
        names();
        whatAnItemIs();
        whereTheyGo();
        rows();
        time();
        CHECK.end();
    }

    private static void names() {
        CHECK.sentence("What it is: at most 512 calls, the last one too", TermsBoundariesTest::lastCall);
        CHECK.sentence("CARRIERS are 0 .. 3", TermsBoundariesTest::carriers);
        CHECK.sentence("HOLES 0 .. n - 1", TermsBoundariesTest::holes);
        CHECK.sentence("HOUSES have numbers 0 .. 199", TermsBoundariesTest::numbers);
        CHECK.sentence("60 may be told, in one ROUND", TermsBoundariesTest::sixtyInOneRound);
        CHECK.sentence("60 may be told, over all ROUNDS", TermsBoundariesTest::sixtyInFourRounds);
        CHECK.sentence("each is in one CARRIER's ROUND", TermsBoundariesTest::oneRound);
        CHECK.sentence("behind those that were told before it", TermsBoundariesTest::behindThoseTold);
        CHECK.sentence("at no HOLE at first", TermsBoundariesTest::noHoleAtFirst);
    }

    private static void whatAnItemIs() {
        CHECK.sentence("ITEMS, numbered from 0 on as they come", TermsBoundariesTest::itemsNumbered);
        CHECK.sentence("ITEMS, at most 250", TermsBoundariesTest::items250);
        CHECK.sentence("60 houses and 250 ITEMS together", TermsBoundariesTest::housesAndItems);
        CHECK.sentence("ITEMS are for a number 0 .. 199", TermsBoundariesTest::itemsForNumbers);
        CHECK.sentence("kinds 0, 1 and 2", TermsBoundariesTest::kinds);
        CHECK.sentence("a letter or flat may go BEHIND another one", TermsBoundariesTest::mayGoBehind);
        CHECK.sentence("those that so hang together are a BUNDLE, all 250", TermsBoundariesTest::bundleOfAll);
        CHECK.sentence("all of them go where the first goes", TermsBoundariesTest::allGoWithTheLead);
        CHECK.sentence("one alone LEADS, too", TermsBoundariesTest::oneAloneLeads);
        CHECK.sentence("lies in the HOLE that was told for it", TermsBoundariesTest::liesWhereTold);
        CHECK.sentence("else in its house's", TermsBoundariesTest::elseAtItsHouse);
        CHECK.sentence("WRONG if it lies in one that is not its house's", TermsBoundariesTest::wrongElsewhere);
        CHECK.sentence("(or its number is no house)", TermsBoundariesTest::wrongWithoutHouse);
        CHECK.sentence("what lies in no HOLE is not WRONG", TermsBoundariesTest::notWrongInNoHole);
    }

    private static void whereTheyGo() {
        CHECK.sentence("STRAY: letters and flats that lie in no HOLE", TermsBoundariesTest::strayInNoHole);
        CHECK.sentence("STRAY: in one that is no house's though WRONG", TermsBoundariesTest::strayInEmptyHole);
        CHECK.sentence("STRAY: bulky for a number that is no house", TermsBoundariesTest::strayBulky);
        CHECK.sentence("ASTRAY: in the FRAME of the CARRIER at that HOLE", TermsBoundariesTest::astray);
        CHECK.sentence("ASTRAY: the least such CARRIER", TermsBoundariesTest::astrayLeast);
        CHECK.sentence("ASTRAY: whatever is HELD", TermsBoundariesTest::astrayThoughHeld);
        CHECK.sentence("all others go to their house", TermsBoundariesTest::othersGoHome);
        CHECK.sentence("if that is HELD, into its DRAWER", TermsBoundariesTest::heldIntoDrawer);
        CHECK.sentence("else bulky ones into the LIST, letters and flats into the FRAME", TermsBoundariesTest::notHeld);
    }

    private static void rows() {
        CHECK.sentence("empty: every row, every count", TermsBoundariesTest::empty);
        CHECK.sentence("A FRAME: house by house of the ROUND", TermsBoundariesTest::frameByHouses);
        CHECK.sentence("A FRAME: of each the ITEMS as they came", TermsBoundariesTest::frameAsTheyCame);
        CHECK.sentence("A FRAME: each with its BUNDLE", TermsBoundariesTest::frameWithBundles);
        CHECK.sentence("A FRAME: then those ASTRAY", TermsBoundariesTest::frameAstrayLast);
        CHECK.sentence("A FRAME: those ASTRAY by HOLES", TermsBoundariesTest::frameAstrayByHoles);
        CHECK.sentence("A FRAME: those ASTRAY of each as they came", TermsBoundariesTest::frameAstrayAsTheyCame);
        CHECK.sentence("A LIST: house by house, as they came", TermsBoundariesTest::listByHouses);
        CHECK.sentence("DRAWERS: as they came", TermsBoundariesTest::drawerAsTheyCame);
        CHECK.sentence("what is STRAY: as they came", TermsBoundariesTest::strayAsTheyCame);
    }

    private static void time() {
        CHECK.sentence("THE TIME of nothing", TermsBoundariesTest::timeOfNothing);
        CHECK.sentence("2 seconds for each letter", TermsBoundariesTest::timeOfLetters);
        CHECK.sentence("3 for each flat in the FRAME", TermsBoundariesTest::timeOfFlats);
        CHECK.sentence("7 for each one in the LIST", TermsBoundariesTest::timeOfBulky);
        CHECK.sentence("5 for each house that has something", TermsBoundariesTest::timeOfHouses);
        CHECK.sentence("5 for a house that has something in both, once", TermsBoundariesTest::timeOfHouseInBoth);
        CHECK.sentence("5 for a house that has something in either", TermsBoundariesTest::timeOfHouseInEither);
        CHECK.sentence("5 go by the one that LEADS", TermsBoundariesTest::timeByTheLead);
        CHECK.sentence("(what is ASTRAY aside)", TermsBoundariesTest::timeOfAstray);
        CHECK.sentence("no time for DRAWERS and what is STRAY", TermsBoundariesTest::timeOfOthers);
        CHECK.sentence("in minutes, each that was begun", TermsBoundariesTest::timeBegun);
        CHECK.sentence("the most minutes", TermsBoundariesTest::timeMost);
    }

    private static void same(String call, long got, long due) {
        CHECK.same(call, got, due);
    }

    private static void same(String call, String got, String due) {
        CHECK.same(call, got, due);
    }

    private static void lastCall() {
        HandCases x = Make.one(2, 1);
        Make.same(x, 250, 7, LETTER);
        for (int call = 252; call < 511; call++) {
            x.put(call % 250, 0);
        }
        same("call 512, sample(1, 1, 1)", x.sample(1, 1, 1), 250);

        HandCases y = new HandCases(1);
        for (int call = 0; call < 511; call++) {
            y.house(call % 4, call % 200);
        }
        same("call 512, house(0, 60)", y.house(0, 60), -4);
    }

    private static void carriers() {
        HandCases x = new HandCases(1);
        for (int carrier = 0; carrier <= 3; carrier++) {
            final int who = carrier;
            same("house(" + who + ", " + who + ")", x.house(who, who), 1);
            x.point(who, 0);
            x.item(who, LETTER);
            x.item(who, BULKY);
            same("frame(" + who + ", 0)", Ask.text(() -> x.frame(who, 0)), String.valueOf(2 * who));
            same("list(" + who + ", 0)", Ask.text(() -> x.list(who, 0)), String.valueOf(2 * who + 1));
            same("minutes(" + who + ")", Ask.text(() -> x.minutes(who)), "1");
        }
        int[] none = {-1, 4, Make.LEAST, Make.MOST};
        for (int who : none) {
            same("house(" + who + ", 9)", x.house(who, 9), -1);
            same("frame(" + who + ", 0)", Ask.text(() -> x.frame(who, 0)), Ask.ARGUMENT);
            same("list(" + who + ", 0)", Ask.text(() -> x.list(who, 0)), Ask.ARGUMENT);
            same("minutes(" + who + ")", Ask.text(() -> x.minutes(who)), Ask.ARGUMENT);
        }
    }

    private static void holes() {
        int[] sizes = {1, 2, 39, 40};
        for (int n : sizes) {
            HandCases x = Make.one(n, 0);
            x.item(7, LETTER);
            int[] inside = {0, n - 1};
            for (int hole : inside) {
                same(n + " holes: put(0, " + hole + ")", x.put(0, hole), hole == 0 ? 0 : 1);
                same(n + " holes: it lies there", x.lies(0), hole);
            }
            for (int hole : inside) {
                same(n + " holes: point(7, " + hole + ")", x.point(7, hole), 1);
                same(n + " holes: it is there", x.teaching(0, 1), hole);
            }
            int[] outside = {-1, n, Make.LEAST, Make.MOST};
            for (int hole : outside) {
                same(n + " holes: put(0, " + hole + ")", x.put(0, hole), -2);
                same(n + " holes: point(7, " + hole + ")", x.point(7, hole), -2);
            }
            same(n + " holes: it lies there still", x.lies(0), n - 1);
            same(n + " holes: it is there still", x.teaching(0, 1), n - 1);
        }
    }

    private static void numbers() {
        HandCases x = new HandCases(1);
        int[] inside = {0, 199};
        for (int number : inside) {
            same("house(0, " + number + ")", x.house(0, number), number == 0 ? 1 : 2);
            same("point(" + number + ", 0)", x.point(number, 0), number == 0 ? 1 : 2);
            same("item(" + number + ", 2)", x.item(number, BULKY), number == 0 ? 0 : 1);
            CHECK.same("hold(" + number + ", true)", x.hold(number, true), true);
            same("drawer(" + number + ", 0)", x.drawer(number, 0), number == 0 ? 0 : 1);
        }
        int[] outside = {-1, 200, Make.LEAST, Make.MOST};
        for (int number : outside) {
            same("house(0, " + number + ")", x.house(0, number), -2);
            same("point(" + number + ", 0)", x.point(number, 0), -1);
            CHECK.same("hold(" + number + ", true)", x.hold(number, true), false);
            same("drawer(" + number + ", 0)", x.drawer(number, 0), NONE);
        }
        same("houses", x.count(1), 2);
    }

    private static void sixtyInOneRound() {
        HandCases x = new HandCases(1);
        for (int i = 1; i <= 60; i++) {
            same("house(3, " + (200 - i) + ")", x.house(3, 200 - i), i);
        }
        same("the 61st", x.house(3, 0), -4);
        same("the 61st, of another round", x.house(0, 0), -4);
        same("houses", x.count(1), 60);
        same("the first is one", x.point(199, 0), 1);
        same("the 60th is one", x.point(140, 0), 2);
        same("the 61st is none", x.point(0, 0), -1);
    }

    private static void sixtyInFourRounds() {
        HandCases x = new HandCases(1);
        for (int i = 0; i < 60; i++) {
            same("house(" + i % 4 + ", " + i + ")", x.house(i % 4, i), i / 4 + 1);
        }
        for (int carrier = 0; carrier < 4; carrier++) {
            same("the 61st, of round " + carrier, x.house(carrier, 60), -4);
        }
        same("houses", x.count(1), 60);
    }

    private static void oneRound() {
        HandCases x = Make.one(1, 0);
        for (int carrier = 0; carrier < 4; carrier++) {
            same("house(" + carrier + ", 7)", x.house(carrier, 7), -3);
        }
        x.item(7, LETTER);
        x.item(7, BULKY);
        same("its carrier", x.teaching(0, 2), 0);
        same("no second house is there", x.teaching(1, 0), -1);
        same("frame of 0", Ask.frame(x, 0), "0");
        same("list of 0", Ask.list(x, 0), "1");
        for (int carrier = 1; carrier < 4; carrier++) {
            same("frame of " + carrier, Ask.frame(x, carrier), "");
            same("list of " + carrier, Ask.list(x, carrier), "");
            same("first of round " + carrier, x.house(carrier, carrier), 1);
        }
        same("second of round 0", x.house(0, 9), 2);
    }

    private static void behindThoseTold() {
        HandCases x = new HandCases(2);
        int[] told = {9, 199, 0, 100};
        for (int number : told) {
            x.house(1, number);
            x.house(0, number + (number == 199 ? -9 : 1));
        }
        for (int i = told.length - 1; i >= 0; i--) {
            x.point(told[i], 1);
            x.item(told[i], LETTER);
            x.item(told[i], BULKY);
        }
        same("frame", Ask.frame(x, 1), "6 4 2 0");
        same("list", Ask.list(x, 1), "7 5 3 1");
        same("teaching", Ask.teaching(x), "9@1/1 199@1/1 0@1/1 100@1/1");
    }

    private static void noHoleAtFirst() {
        HandCases x = new HandCases(1);
        Make.houses(x, 0, 0, 7, 199);
        Make.items(x, LETTER, 0, 7, 199);
        same("teaching(0, 0)", x.teaching(0, 0), -1);
        same("lies(0), (1) and (2)", x.lies(0) + x.lies(1) + x.lies(2), 3 * NONE);
        same("stray", Ask.stray(x), "0 1 2");
        same("the first that is pointed to hole 0", x.point(7, 0), 1);
        same("then it lies there", x.lies(1), 0);
        same("the others still do not", Ask.stray(x), "0 2");
    }

    private static void itemsNumbered() {
        HandCases x = new HandCases(1);
        same("the first", x.item(199, BULKY), 0);
        same("the second", x.item(0, LETTER), 1);
        same("refused", x.item(200, LETTER), -2);
        same("refused", x.item(0, 3), -2);
        same("the third takes the next number", x.item(0, LETTER), 2);
        same("one in a bundle", x.bundle(1, 2), 2);
        same("the fourth", x.item(5, FLAT), 3);
        same("items", x.count(2), 4);
    }

    private static void items250() {
        for (int kind = LETTER; kind <= BULKY; kind++) {
            HandCases x = new HandCases(1);
            for (int i = 0; i < 250; i++) {
                same("item " + i + " of kind " + kind, x.item(i % 200, kind), i);
            }
            x.bundle(0, 249);
            for (int other = LETTER; other <= BULKY; other++) {
                same("the 251st, of kind " + other, x.item(0, other), -4);
            }
            same("items", x.count(2), 250);
            same("the 250th is one", x.put(249, 1), -2);
            same("the 251st is none", x.put(250, 1), -1);
        }
    }

    private static void housesAndItems() {
        HandCases x = new HandCases(40);
        for (int i = 0; i < 250; i++) {
            same("item " + i, x.item(i % 60, i % 3), i);
        }
        for (int i = 0; i < 60; i++) {
            same("house " + i, x.house(i % 4, i), i / 4 + 1);
            x.point(i, i % 40);
        }
        same("the 61st house", x.house(0, 60), -4);
        same("the 251st item", x.item(0, LETTER), -4);
        same("all go to their houses", Ask.counts(x), "40 60 250 0 0 167 83 0 0");
        // Carrier 3 has houses 3, 7 .. 59; every third of these has what is bulky, the others letters or flats.
        same("the last of the last frame", Ask.text(() -> x.frame(3, 41)), "235");
        same("no more in it", Ask.text(() -> x.frame(3, 42)), Ask.BOUNDS);
        same("the last of the last list", Ask.text(() -> x.list(3, 19)), "239");
        same("no more in it", Ask.text(() -> x.list(3, 20)), Ask.BOUNDS);
    }

    private static void itemsForNumbers() {
        HandCases x = new HandCases(1);
        same("item(0, 0)", x.item(0, LETTER), 0);
        same("item(199, 0)", x.item(199, LETTER), 1);
        int[] outside = {-1, 200, Make.LEAST, Make.MOST};
        for (int number : outside) {
            same("item(" + number + ", 0)", x.item(number, LETTER), -2);
        }
        same("items", x.count(2), 2);
    }

    private static void kinds() {
        HandCases x = Make.one(1, 0);
        same("a letter", x.item(7, 0), 0);
        same("a flat", x.item(7, 1), 1);
        same("a bulky one", x.item(7, 2), 2);
        int[] outside = {-1, 3, Make.LEAST, Make.MOST};
        for (int kind : outside) {
            same("item(7, " + kind + ")", x.item(7, kind), -2);
        }
        same("items", x.count(2), 3);
        same("a letter and a flat", Ask.frame(x, 0), "0 1");
        same("a bulky one", Ask.list(x, 0), "2");
        same("a letter may be put", x.put(0, 0), 0);
        same("a flat may be put", x.put(1, 0), 0);
        same("a bulky one may not", x.put(2, 0), -3);
    }

    private static void mayGoBehind() {
        for (int first = LETTER; first <= BULKY; first++) {
            for (int second = LETTER; second <= BULKY; second++) {
                HandCases x = Make.one(1, 0);
                x.item(7, first);
                x.item(7, second);
                int due = first == BULKY || second == BULKY ? -3 : 2;
                same("kind " + second + " behind kind " + first, x.bundle(0, 1), due);
            }
        }
    }

    /** 250 items and 249 bundles leave 13 of the 512 calls for the rest. */
    private static void bundleOfAll() {
        HandCases x = Make.one(2, 1);
        Make.same(x, 250, 7, FLAT);
        for (int item = 249; item > 0; item--) {
            same("bundle(" + item + ", " + (item - 1) + ")", x.bundle(item, item - 1), 251 - item);
        }
        same("the last behind the first", x.bundle(0, 249), -3);
        same("the last lies with it", x.lies(0), 1);
        same("put(249, 0)", x.put(249, 0), 1);
        same("the last goes with it", x.lies(0), 0);
        same("all are stray", x.count(8), 250);
        same("sample(1, 1, 1)", x.sample(1, 1, 1), 1);
        same("sort()", x.sort(), 250);
        same("the first", Ask.text(() -> x.frame(0, 0)), "249");
        same("the last", Ask.text(() -> x.frame(0, 249)), "0");
        same("no more", Ask.text(() -> x.frame(0, 250)), Ask.BOUNDS);
        same("wrong ones", x.count(3), 0);
    }

    private static void allGoWithTheLead() {
        HandCases x = new HandCases(2);
        Make.houses(x, 0, 10, 30);
        Make.houses(x, 1, 20);
        x.point(10, 0);
        x.point(20, 1);
        Make.items(x, FLAT, 99, 10, 30);
        Make.items(x, LETTER, 20);
        x.bundle(3, 0);
        x.bundle(0, 1);
        x.bundle(1, 2);
        same("to its frame", Ask.frame(x, 1), "3 0 1 2");
        same("all lie with it", x.lies(0) + x.lies(1) + x.lies(2) + x.lies(3), 4);
        x.hold(20, true);
        same("into its drawer", Ask.drawer(x, 20), "3 0 1 2");
        x.put(3, 0);
        same("astray", Ask.frame(x, 0), "3 0 1 2");
        x.point(10, 1);
        same("stray", Ask.stray(x), "3 0 1 2");
        same("and nowhere else", Ask.counts(x), "2 3 4 1 1 0 0 0 4");
    }

    private static void oneAloneLeads() {
        HandCases x = Make.one(2, 1);
        Make.same(x, 4, 7, LETTER);
        x.bundle(0, 1);
        x.bundle(1, 2);
        same("one alone", x.put(3, 0), 1);
        same("the first of three", x.put(0, 0), 1);
        same("the second of three", x.put(1, 0), -3);
        same("the last of three", x.put(2, 0), -3);
        same("wrong ones that lead", x.count(3), 2);
    }

    private static void liesWhereTold() {
        HandCases x = Make.one(40, 5);
        x.house(0, 8);
        Make.items(x, LETTER, 7, 7, 8, 99, 7);
        x.put(0, 0);
        x.put(1, 39);
        x.put(2, 0);
        x.put(3, 39);
        x.put(4, 5);
        same("told the first hole", x.lies(0), 0);
        same("told the last hole", x.lies(1), 39);
        same("its house has none", x.lies(2), 0);
        same("its number is no house", x.lies(3), 39);
        x.point(7, 6);
        same("told its house's, which went on", x.lies(4), 5);
        x.put(0, 39);
        same("told another", x.lies(0), 39);
    }

    private static void elseAtItsHouse() {
        HandCases x = Make.one(40, 0);
        Make.items(x, LETTER, 7);
        Make.items(x, FLAT, 7, 99);
        Make.items(x, BULKY, 7);
        same("its house is at the first hole", x.lies(0), 0);
        x.point(7, 39);
        same("its house is at the last hole", x.lies(1), 39);
        same("its number is no house", x.lies(2), NONE);
        same("it is bulky", x.lies(3), NONE);
        x.house(0, 99);
        same("its house is at none", x.lies(2), NONE);
        x.point(99, 0);
        same("its house has one now", x.lies(2), 0);
    }

    private static void wrongElsewhere() {
        HandCases x = Make.one(40, 0);
        x.house(3, 8);
        Make.items(x, FLAT, 7, 8);
        same("in its house's, the first", x.put(0, 0), 0);
        same("in the next", x.put(0, 1), 1);
        same("in the last", x.put(0, 39), 1);
        x.point(7, 39);
        same("wrong ones when its house is there", x.count(3), 0);
        same("in its house's, the last", x.put(0, 39), 0);
        same("in the one before", x.put(0, 38), 1);
        same("its house is at none", x.put(1, 0), 1);
        x.point(8, 38);
        same("in one of another house", x.put(0, 38), 1);
        same("wrong ones", x.count(3), 2);
        x.point(7, 38);
        x.point(8, 0);
        same("wrong ones when both houses are there", x.count(3), 0);
    }

    private static void wrongWithoutHouse() {
        HandCases x = Make.one(2, 0);
        x.item(99, LETTER);
        same("in a house's", x.put(0, 0), 1);
        same("in no house's", x.put(0, 1), 1);
        same("wrong ones", x.count(3), 1);
        x.house(0, 99);
        same("a house at no hole", x.count(3), 1);
        x.point(99, 1);
        same("a house at that hole", x.count(3), 0);
    }

    private static void notWrongInNoHole() {
        HandCases x = Make.one(1, 0);
        x.house(0, 8);
        Make.items(x, LETTER, 8, 99);
        Make.items(x, BULKY, 7, 8, 99);
        same("wrong ones", x.count(3), 0);
        x.put(0, 0);
        x.bundle(1, 0);
        same("wrong ones, behind one that lies in none", x.count(3), 0);
    }

    private static void strayInNoHole() {
        HandCases x = Make.one(1, 0);
        x.house(0, 8);
        Make.items(x, LETTER, 8, 99, 7);
        Make.items(x, FLAT, 8, 99, 7);
        same("stray", Ask.stray(x), "0 1 3 4");
        x.hold(8, true);
        same("though its house is held", Ask.stray(x), "0 1 3 4");
        same("not in its drawer", Ask.drawer(x, 8), "");
    }

    private static void strayInEmptyHole() {
        HandCases x = Make.one(3, 0);
        x.house(1, 8);
        Make.items(x, LETTER, 7, 8, 99);
        Make.items(x, FLAT, 7);
        for (int item = 0; item < 4; item++) {
            x.put(item, 2);
        }
        same("stray", Ask.stray(x), "0 1 2 3");
        x.hold(7, true);
        same("though its house is held", Ask.stray(x), "0 1 2 3");
        x.point(8, 2);
        same("a house came there", Ask.stray(x), "");
        same("one is at home", Ask.frame(x, 1), "1 0 2 3");
        x.point(8, 1);
        same("it went on", Ask.stray(x), "0 1 2 3");
        same("those that lie there are wrong", x.count(3), 4);
    }

    private static void strayBulky() {
        HandCases x = Make.one(1, 0);
        x.house(0, 8);
        Make.items(x, BULKY, 99, 7, 8, 199);
        same("stray", Ask.stray(x), "0 3");
        same("a house at no hole is one", Ask.list(x, 0), "1 2");
        x.house(0, 99);
        same("stray, since 99 is a house", Ask.stray(x), "3");
    }

    private static void astray() {
        HandCases x = Make.one(40, 39);
        x.house(3, 8);
        x.point(8, 0);
        Make.items(x, LETTER, 7, 8, 99);
        x.put(0, 0);
        x.put(1, 39);
        same("at the first hole", Ask.frame(x, 3), "0");
        same("at the last hole", Ask.frame(x, 0), "1");
        x.put(2, 0);
        same("for no house", Ask.frame(x, 3), "0 2");
        same("not stray", Ask.stray(x), "");
        x.house(0, 6);
        x.item(6, FLAT);
        x.put(3, 39);
        same("for a house at no hole", Ask.frame(x, 0), "1 3");
    }

    private static void astrayLeast() {
        HandCases x = new HandCases(2);
        x.house(3, 30);
        x.item(99, LETTER);
        x.put(0, 1);
        x.point(30, 1);
        same("3 alone", Ask.frame(x, 3), "0");
        for (int carrier = 2; carrier >= 0; carrier--) {
            x.house(carrier, 10 * carrier);
            same("a house of " + carrier + ", not there yet", Ask.frame(x, carrier), "");
            x.point(10 * carrier, 1);
            same("a house of " + carrier + " there", Ask.frame(x, carrier), "0");
            same("not with " + (carrier + 1) + " any more", Ask.frame(x, carrier + 1), "");
        }
        for (int carrier = 0; carrier < 3; carrier++) {
            x.point(10 * carrier, 0);
            same("that of " + carrier + " went on", Ask.frame(x, carrier + 1), "0");
        }
        x.house(3, 31);
        x.point(31, 1);
        same("two of the same", Ask.frame(x, 3), "0");
        x.house(2, 21);
        x.point(21, 1);
        x.house(3, 32);
        x.point(32, 1);
        same("the least told between others", Ask.frame(x, 2), "0");
        same("not with the last", Ask.frame(x, 3), "");
    }

    private static void astrayThoughHeld() {
        HandCases x = new HandCases(2);
        x.house(0, 10);
        x.house(1, 20);
        x.house(2, 30);
        x.point(10, 0);
        x.point(20, 1);
        x.point(30, 1);
        x.item(10, LETTER);
        x.put(0, 1);
        x.hold(10, true);
        same("its own house", Ask.frame(x, 1), "0");
        same("not in that drawer", Ask.drawer(x, 10), "");
        x.hold(20, true);
        same("the house there", Ask.frame(x, 1), "0");
        same("not in this drawer", Ask.drawer(x, 20), "");
        same("counts", Ask.counts(x), "2 3 1 1 2 1 0 0 0");
    }

    private static void othersGoHome() {
        HandCases x = new HandCases(1);
        x.house(0, 10);
        x.house(3, 40);
        x.point(10, 0);
        x.point(40, 0);
        Make.items(x, LETTER, 40, 40);
        x.item(40, BULKY);
        x.put(1, 0);
        same("not to the least carrier at that hole", Ask.frame(x, 0), "");
        same("to its house's", Ask.frame(x, 3), "0 1");
        same("bulky ones too", Ask.list(x, 3), "2");
        x.hold(10, true);
        same("another house is held", Ask.frame(x, 3), "0 1");
    }

    private static void heldIntoDrawer() {
        HandCases x = Make.one(1, 0);
        x.house(0, 8);
        Make.items(x, LETTER, 7, 8);
        Make.items(x, FLAT, 7);
        Make.items(x, BULKY, 7, 8);
        x.hold(7, true);
        x.hold(8, true);
        same("letters, flats and bulky ones", Ask.drawer(x, 7), "0 2 3");
        same("a house at no hole has what is bulky", Ask.drawer(x, 8), "4");
        same("none in the frame", Ask.frame(x, 0), "");
        same("none in the list", Ask.list(x, 0), "");
        x.put(0, 0);
        same("told the same hole", Ask.drawer(x, 7), "0 2 3");
        x.item(7, LETTER);
        same("one that came later", Ask.drawer(x, 7), "0 2 3 5");
        x.hold(7, false);
        same("not held any more", Ask.drawer(x, 7), "");
    }

    private static void notHeld() {
        HandCases x = Make.one(1, 0);
        for (int kind = LETTER; kind <= BULKY; kind++) {
            x.item(7, kind);
        }
        same("frame", Ask.frame(x, 0), "0 1");
        same("list", Ask.list(x, 0), "2");
        x.hold(7, true);
        x.hold(7, false);
        same("frame, not held any more", Ask.frame(x, 0), "0 1");
        same("list, not held any more", Ask.list(x, 0), "2");
        same("drawer", Ask.drawer(x, 7), "");
    }

    private static void empty() {
        HandCases x = new HandCases(1);
        same("nothing told", Ask.counts(x), "1 0 0 0 0 0 0 0 0");
        same("sort()", x.sort(), 0);
        same("sample(1, 1, 1)", x.sample(1, 1, 1), 0);
        for (int carrier = 0; carrier < 4; carrier++) {
            final int who = carrier;
            same("frame(" + who + ", 0)", Ask.text(() -> x.frame(who, 0)), Ask.BOUNDS);
            same("list(" + who + ", 0)", Ask.text(() -> x.list(who, 0)), Ask.BOUNDS);
            same("minutes(" + who + ")", Ask.text(() -> x.minutes(who)), "0");
        }
        same("stray(0)", x.stray(0), NONE);
        same("drawer(0, 0)", x.drawer(0, 0), NONE);
        same("lies(0)", x.lies(0), NONE);
        same("teaching(0, 0)", x.teaching(0, 0), -1);
        x.house(0, 7);
        x.point(7, 0);
        x.hold(7, true);
        same("a house without items", Ask.state(x, 7), "counts 1 1 0 0 1 0 0 0 0"
            + "; frame ; list ; minutes 0; frame ; list ; minutes 0; frame ; list ; minutes 0; frame ; list ; minutes 0"
            + "; drawer ; stray ; teaching 7@0/0; lies");
    }

    private static void frameByHouses() {
        HandCases x = new HandCases(3);
        Make.houses(x, 2, 30, 10, 20);
        x.point(30, 2);
        x.point(10, 1);
        x.point(20, 0);
        Make.items(x, LETTER, 20, 10, 30);
        same("the round tells, not the numbers, the holes or the items", Ask.frame(x, 2), "2 1 0");
        x.hold(10, true);
        same("without the one between", Ask.frame(x, 2), "2 0");
        x.hold(30, true);
        same("without the first", Ask.frame(x, 2), "0");
        x.hold(20, true);
        same("without any", Ask.frame(x, 2), "");
    }

    private static void frameAsTheyCame() {
        HandCases x = Make.one(2, 1);
        x.house(0, 8);
        x.point(8, 1);
        for (int i = 0; i < 3; i++) {
            x.item(8, FLAT);
            x.item(7, FLAT);
            x.item(7, LETTER);
        }
        same("flats and letters alike", Ask.frame(x, 0), "1 2 4 5 7 8 0 3 6");
        x.put(1, 0);
        x.put(1, 1);
        same("one that was away", Ask.frame(x, 0), "1 2 4 5 7 8 0 3 6");
    }

    private static void frameWithBundles() {
        HandCases x = Make.one(2, 1);
        x.house(0, 8);
        x.point(8, 0);
        Make.items(x, LETTER, 7, 8, 7, 7, 8, 99);
        x.bundle(3, 0);
        x.bundle(0, 5);
        x.bundle(1, 2);
        same("by the number of the lead, one right behind the other", Ask.frame(x, 0), "3 0 5 1 2 4");
        x.put(3, 0);
        same("astray too", Ask.frame(x, 0), "1 2 4 3 0 5");
    }

    private static void frameAstrayLast() {
        HandCases x = Make.one(2, 1);
        x.house(0, 8);
        x.point(8, 0);
        Make.items(x, LETTER, 7, 8, 8, 7);
        x.put(0, 0);
        x.put(1, 1);
        same("behind all houses, whatever its number", Ask.frame(x, 0), "3 2 0 1");
        x.hold(7, true);
        x.hold(8, true);
        same("alone", Ask.frame(x, 0), "0 1");
    }

    private static void frameAstrayByHoles() {
        HandCases x = new HandCases(40);
        Make.houses(x, 1, 10, 20, 30);
        x.point(10, 39);
        x.point(20, 0);
        x.point(30, 20);
        Make.items(x, FLAT, 99, 99, 99);
        x.put(0, 39);
        x.put(1, 20);
        x.put(2, 0);
        same("the first hole first, the last one last", Ask.frame(x, 1), "2 1 0");
    }

    private static void frameAstrayAsTheyCame() {
        HandCases x = new HandCases(2);
        x.house(0, 10);
        x.point(10, 1);
        Make.items(x, LETTER, 99, 50, 99, 10, 60);
        x.put(4, 1);
        x.put(2, 1);
        x.put(1, 1);
        x.put(0, 1);
        same("by their numbers, not as they were put", Ask.frame(x, 0), "3 0 1 2 4");
        x.bundle(4, 0);
        same("by the lead", Ask.frame(x, 0), "3 1 2 4 0");
    }

    private static void listByHouses() {
        HandCases x = new HandCases(1);
        Make.houses(x, 3, 30, 10);
        Make.items(x, BULKY, 10, 30, 10, 30, 99);
        same("the round tells, then as they came", Ask.list(x, 3), "1 3 0 2");
        x.hold(30, true);
        same("without the first house", Ask.list(x, 3), "0 2");
        x.hold(10, true);
        same("without any", Ask.list(x, 3), "");
    }

    private static void drawerAsTheyCame() {
        HandCases x = Make.one(1, 0);
        Make.items(x, BULKY, 7, 99, 7);
        Make.items(x, LETTER, 7, 99, 7);
        Make.items(x, FLAT, 7);
        Make.items(x, BULKY, 7);
        x.hold(7, true);
        same("kinds alike", Ask.drawer(x, 7), "0 2 3 5 6 7");
        x.bundle(6, 3);
        x.bundle(3, 4);
        same("by the number of the one that leads", Ask.drawer(x, 7), "0 2 5 6 3 4 7");
    }

    private static void strayAsTheyCame() {
        HandCases x = Make.one(2, 0);
        Make.items(x, LETTER, 99, 7);
        Make.items(x, BULKY, 99);
        Make.items(x, FLAT, 99, 7);
        Make.items(x, BULKY, 50);
        x.put(1, 1);
        same("kinds and reasons alike", Ask.stray(x), "0 1 2 3 5");
        x.bundle(3, 0);
        x.bundle(0, 4);
        same("by the number of the one that leads", Ask.stray(x), "1 2 3 0 4 5");
    }

    /** The minutes of one house with so many letters, flats and bulky ones. */
    private static int minutes(int letters, int flats, int bulky) {
        HandCases x = Make.one(1, 0);
        Make.same(x, letters, 7, LETTER);
        Make.same(x, flats, 7, FLAT);
        Make.same(x, bulky, 7, BULKY);
        return x.minutes(0);
    }

    private static void timeOfNothing() {
        same("a house, no items", minutes(0, 0, 0), 0);
        same("of another carrier", Make.one(1, 0).minutes(3), 0);
    }

    private static void timeOfLetters() {
        same("5 + 27 * 2 = 59", minutes(27, 0, 0), 1);
        same("5 + 28 * 2 = 61", minutes(28, 0, 0), 2);
        same("5 + 250 * 2 = 505", minutes(250, 0, 0), 9);
    }

    private static void timeOfFlats() {
        same("5 + 18 * 3 = 59", minutes(0, 18, 0), 1);
        same("5 + 19 * 3 = 62", minutes(0, 19, 0), 2);
        same("5 + 250 * 3 = 755", minutes(0, 250, 0), 13);
    }

    private static void timeOfBulky() {
        same("5 + 7 * 7 = 54", minutes(0, 0, 7), 1);
        same("5 + 8 * 7 = 61", minutes(0, 0, 8), 2);
        same("5 + 250 * 7 = 1755", minutes(0, 0, 250), 30);
    }

    private static void timeOfHouses() {
        HandCases x = Make.sixty();
        for (int house = 0; house < 60; house++) {
            x.item(house, BULKY);
        }
        same("60 * (7 + 5) = 720", x.minutes(0), 12);
        x.hold(0, true);
        same("59 * (7 + 5) = 708", x.minutes(0), 12);
        for (int house = 1; house < 5; house++) {
            x.hold(house, true);
        }
        same("55 * (7 + 5) = 660", x.minutes(0), 11);
        Make.same(x, 10, 59, LETTER);
        same("660 + 10 * 2 = 680", x.minutes(0), 12);
    }

    private static void timeOfHouseInBoth() {
        same("5 + 6 * 2 + 6 * 7 = 59", minutes(6, 0, 6), 1);
        same("5 + 2 * 3 + 7 * 7 = 60", minutes(0, 2, 7), 1);
        same("5 + 7 * 2 + 6 * 7 = 61", minutes(7, 0, 6), 2);
    }

    private static void timeOfHouseInEither() {
        HandCases x = Make.sixty();
        for (int house = 0; house < 30; house++) {
            x.item(house, BULKY);
        }
        same("30 * (7 + 5) = 360", x.minutes(0), 6);
        for (int house = 30; house < 60; house++) {
            x.item(house, LETTER);
        }
        same("and 30 * (2 + 5) = 570", x.minutes(0), 10);
        for (int house = 30; house < 40; house++) {
            x.item(house, FLAT);
        }
        same("and 10 * 3 = 600", x.minutes(0), 10);
        x.item(59, LETTER);
        same("and 2 = 602", x.minutes(0), 11);
    }

    private static void timeByTheLead() {
        HandCases x = Make.one(2, 0);
        x.house(0, 8);
        x.point(8, 1);
        x.item(7, LETTER);
        Make.same(x, 17, 8, FLAT);
        for (int item = 0; item < 17; item++) {
            x.bundle(item, item + 1);
        }
        x.item(7, LETTER);
        same("5 + 2 + 17 * 3 + 2 = 60, none for the house of those behind", x.minutes(0), 1);
        x.item(8, LETTER);
        same("5 + 2 and another house 5 + 2", x.minutes(0), 2);
    }

    private static void timeOfAstray() {
        HandCases x = Make.one(2, 0);
        x.item(99, LETTER);
        x.put(0, 0);
        same("one letter, 2", x.minutes(0), 1);
        for (int i = 1; i < 30; i++) {
            x.item(99, LETTER);
            x.put(i, 0);
        }
        same("30 * 2 = 60, none for the house there", x.minutes(0), 1);
        x.item(99, FLAT);
        same("a stray one", x.minutes(0), 1);
        x.put(30, 0);
        same("and a flat, 63", x.minutes(0), 2);
    }

    private static void timeOfOthers() {
        HandCases x = Make.one(2, 0);
        for (int kind = LETTER; kind <= BULKY; kind++) {
            x.item(7, kind);
            x.item(99, kind);
        }
        x.hold(7, true);
        same("held and stray", x.minutes(0), 0);
        x.hold(7, false);
        same("5 + 2 + 3 + 7 = 17", x.minutes(0), 1);
        Make.same(x, 6, 7, BULKY);
        same("17 + 42 = 59, none for what is stray", x.minutes(0), 1);
    }

    private static void timeBegun() {
        same("5 + 2 = 7", minutes(1, 0, 0), 1);
        same("5 + 54 = 59", minutes(27, 0, 0), 1);
        same("5 + 52 + 3 = 60", minutes(26, 1, 0), 1);
        same("5 + 56 = 61", minutes(28, 0, 0), 2);
        same("5 + 114 = 119", minutes(57, 0, 0), 2);
        same("5 + 112 + 3 = 120", minutes(56, 1, 0), 2);
        same("5 + 116 = 121", minutes(58, 0, 0), 3);
    }

    private static void timeMost() {
        HandCases x = Make.sixty();
        for (int i = 0; i < 250; i++) {
            x.item(i % 60, BULKY);
        }
        same("60 * 5 + 250 * 7 = 2050", x.minutes(0), 35);
        same("of another carrier", x.minutes(1), 0);
    }
}
