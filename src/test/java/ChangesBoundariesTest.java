/** The boundaries of promises 1 to 8, whose calls change something: each sentence has a test of its own. */
public final class ChangesBoundariesTest {
    private static final int LETTER = Make.LETTER;
    private static final int FLAT = Make.FLAT;
    private static final int BULKY = Make.BULKY;
    private static final int NONE = HandCases.NONE;

    private static final Check CHECK = new Check("ChangesBoundariesTest");

    public static void main(String[] args) {
        promises1To4();
        promises5To7();
        promise8Who();
        promise8Tape();
        CHECK.end();
    }

    private static void promises1To4() {
        CHECK.sentence("1: so many HOLES, 1 .. 40", ChangesBoundariesTest::newInside);
        CHECK.sentence("1: for lesser numbers the nearest, 1", ChangesBoundariesTest::newBelow);
        CHECK.sentence("1: for greater numbers the nearest, 40", ChangesBoundariesTest::newAbove);
        CHECK.sentence("2: how many the ROUND has", ChangesBoundariesTest::houseHowMany);
        CHECK.sentence("3: at a HOLE from now on", ChangesBoundariesTest::pointFromNowOn);
        CHECK.sentence("3: how many houses are there", ChangesBoundariesTest::pointHowMany);
        CHECK.sentence("3: how many houses are there, all 60", ChangesBoundariesTest::pointAll);
        CHECK.sentence("4: its number", ChangesBoundariesTest::itemNumber);
    }

    private static void promises5To7() {
        CHECK.sentence("5: right BEHIND another one", ChangesBoundariesTest::bundleRightBehind);
        CHECK.sentence("5: how many the BUNDLE has", ChangesBoundariesTest::bundleHowMany);
        CHECK.sentence("5: (what was told for the second one's HOLE is gone)", ChangesBoundariesTest::bundleToldIsGone);
        CHECK.sentence("6: an ITEM that LEADS lies in a HOLE", ChangesBoundariesTest::putLies);
        CHECK.sentence("6: whether it is WRONG (1 or 0)", ChangesBoundariesTest::putWhether);
        CHECK.sentence("7: HELD, or not any more", ChangesBoundariesTest::holdOrNot);
        CHECK.sentence("7: whether that is new", ChangesBoundariesTest::holdNew);
        CHECK.sentence("7: false if there is no such house", ChangesBoundariesTest::holdNoHouse);
    }

    private static void promise8Who() {
        CHECK.sentence("8: HOLE by HOLE, the first to the last", ChangesBoundariesTest::sampleByHoles);
        CHECK.sentence("8: of those that LEAD", ChangesBoundariesTest::sampleLeads);
        CHECK.sentence("8: and lay there before", ChangesBoundariesTest::sampleLayThere);
        CHECK.sentence("8: as they came", ChangesBoundariesTest::sampleAsTheyCame);
        CHECK.sentence("8: x is counted on for each", ChangesBoundariesTest::sampleForEach);
        CHECK.sentence("8: those that are WRONG", ChangesBoundariesTest::sampleWrong);
        CHECK.sentence("8: and whose house has a HOLE", ChangesBoundariesTest::sampleHouseHasHole);
        CHECK.sentence("8: lie there then (what was told is gone)", ChangesBoundariesTest::sampleToldIsGone);
        CHECK.sentence("8: how many, none and all 250", ChangesBoundariesTest::sampleHowMany);
    }

    private static void promise8Tape() {
        CHECK.sentence("8: x is the tape at first, the least and the most", ChangesBoundariesTest::tapeAtFirst);
        CHECK.sentence("8: x wraps around as an int", ChangesBoundariesTest::tapeWraps);
        CHECK.sentence("8: x >>> 16 is not below 0", ChangesBoundariesTest::tapeNotBelow0);
        CHECK.sentence("8: modulo the whole", ChangesBoundariesTest::tapeModulo);
        CHECK.sentence("8: below the part", ChangesBoundariesTest::tapeBelowPart);
        CHECK.sentence("8: a part of 0, and of the whole", ChangesBoundariesTest::tapeNoneAndAll);
    }

    private static void same(String call, long got, long due) {
        CHECK.same(call, got, due);
    }

    private static void same(String call, String got, String due) {
        CHECK.same(call, got, due);
    }

    private static void holes(int asked, int due) {
        HandCases x = new HandCases(asked);
        same("new HandCases(" + asked + "), count(0)", x.count(0), due);
        x.house(0, 7);
        same("new HandCases(" + asked + "), point(7, " + (due - 1) + ")", x.point(7, due - 1), 1);
        same("new HandCases(" + asked + "), point(7, " + due + ")", x.point(7, due), -2);
        x.item(7, LETTER);
        same("new HandCases(" + asked + "), put(0, " + (due - 1) + ")", x.put(0, due - 1), 0);
        same("new HandCases(" + asked + "), put(0, " + due + ")", x.put(0, due), -2);
    }

    private static void newInside() {
        int[] inside = {1, 2, 20, 39, 40};
        for (int n : inside) {
            holes(n, n);
        }
    }

    private static void newBelow() {
        int[] below = {0, -1, -40, Make.LEAST};
        for (int n : below) {
            holes(n, 1);
        }
    }

    private static void newAbove() {
        int[] above = {41, 42, 1000, Make.MOST};
        for (int n : above) {
            holes(n, 40);
        }
    }

    private static void houseHowMany() {
        HandCases x = new HandCases(1);
        same("first of 0", x.house(0, 1), 1);
        same("first of 3", x.house(3, 2), 1);
        same("second of 0", x.house(0, 3), 2);
        same("told already", x.house(0, 3), -3);
        same("third of 0", x.house(0, 4), 3);
        same("second of 3", x.house(3, 5), 2);
        for (int i = 6; i < 61; i++) {
            same("number " + i + " of 1", x.house(1, i), i - 5);
        }
    }

    private static void pointFromNowOn() {
        HandCases x = Make.one(40, 0);
        x.item(7, LETTER);
        same("at the first", x.lies(0), 0);
        x.point(7, 39);
        same("at the last", x.lies(0), 39);
        same("in its frame", Ask.frame(x, 0), "0");
        x.put(0, 39);
        x.point(7, 0);
        same("one told for a hole stays", x.lies(0), 39);
        same("and is stray there", Ask.stray(x), "0");
        same("teaching", Ask.teaching(x), "7@0/0");
    }

    private static void pointHowMany() {
        HandCases x = new HandCases(2);
        Make.houses(x, 0, 1, 2);
        Make.houses(x, 3, 3, 4);
        same("one, though others are at no hole", x.point(1, 0), 1);
        same("the same again", x.point(1, 0), 1);
        same("another of its carrier", x.point(2, 0), 2);
        same("one of another carrier", x.point(3, 0), 3);
        same("the first at the next hole", x.point(4, 1), 1);
        same("one that goes there", x.point(1, 1), 2);
        same("two are left", x.point(3, 0), 2);
    }

    private static void pointAll() {
        HandCases x = new HandCases(40);
        for (int i = 0; i < 60; i++) {
            x.house(i % 4, i);
            same("house " + i, x.point(i, 39), i + 1);
        }
        for (int i = 0; i < 60; i++) {
            same("house " + i + " goes to another", x.point(i, 0), i + 1);
        }
    }

    private static void itemNumber() {
        HandCases x = new HandCases(1);
        for (int i = 0; i < 250; i++) {
            same("item " + i, x.item(i % 200, i % 3), i);
        }
    }

    private static void bundleRightBehind() {
        HandCases x = Make.one(1, 0);
        Make.same(x, 6, 7, LETTER);
        x.bundle(4, 1);
        x.bundle(2, 5);
        x.bundle(1, 2);
        same("a bundle behind the last of another", Ask.frame(x, 0), "0 3 4 1 2 5");
        x.bundle(0, 4);
        same("behind one alone", Ask.frame(x, 0), "0 4 1 2 5 3");
        x.bundle(5, 3);
        same("all", Ask.frame(x, 0), "0 4 1 2 5 3");
        same("one bundle", x.bundle(3, 0), -3);
    }

    private static void bundleHowMany() {
        HandCases x = new HandCases(1);
        Make.same(x, 7, 7, LETTER);
        same("one and one", x.bundle(0, 1), 2);
        same("one and two", x.bundle(2, 0), 3);
        same("one and one", x.bundle(3, 4), 2);
        same("three and two", x.bundle(1, 3), 5);
        same("five and one", x.bundle(4, 5), 6);
        same("one and six", x.bundle(6, 2), 7);
    }

    private static void bundleToldIsGone() {
        HandCases x = Make.one(3, 1);
        x.house(0, 8);
        Make.items(x, LETTER, 8, 7, 7, 7);
        x.put(1, 2);
        x.bundle(0, 1);
        same("the first one lies in none", x.lies(0), NONE);
        same("so does the second", x.lies(1), NONE);
        same("wrong ones", x.count(3), 0);
        x.put(2, 0);
        x.put(3, 2);
        x.bundle(2, 3);
        same("what was told for the first one is not gone", x.lies(2), 0);
        same("the second lies with it", x.lies(3), 0);
        same("wrong ones that lead", x.count(3), 1);
        same("one is brought home", x.sample(1, 1, 1), 1);
        same("and the second with it", x.lies(3), 1);
    }

    private static void putLies() {
        HandCases x = Make.one(40, 20);
        Make.same(x, 2, 7, FLAT);
        x.bundle(0, 1);
        x.put(0, 0);
        same("in the first hole", x.lies(0), 0);
        x.put(0, 39);
        same("in the last hole", x.lies(0), 39);
        same("what is behind it too", x.lies(1), 39);
        x.put(0, 20);
        same("in its house's", x.lies(0), 20);
    }

    private static void putWhether() {
        HandCases x = Make.one(3, 1);
        Make.houses(x, 3, 8, 9);
        x.point(8, 1);
        Make.items(x, LETTER, 7, 9, 99);
        same("its house's", x.put(0, 1), 0);
        same("the one before", x.put(0, 0), 1);
        same("the same again", x.put(0, 0), 1);
        same("the one behind", x.put(0, 2), 1);
        same("its house's again", x.put(0, 1), 0);
        same("its house is at none", x.put(1, 0), 1);
        same("its number is no house", x.put(2, 0), 1);
        same("wrong ones", x.count(3), 2);
    }

    private static void holdOrNot() {
        HandCases x = Make.one(1, 0);
        x.house(0, 8);
        x.item(7, BULKY);
        same("not at first", x.drawer(7, 0), NONE);
        x.hold(7, true);
        same("held", x.drawer(7, 0), 0);
        x.hold(8, true);
        x.hold(8, false);
        same("another one not any more", x.drawer(7, 0), 0);
        x.hold(7, false);
        same("not any more", x.drawer(7, 0), NONE);
        same("it is back", x.list(0, 0), 0);
    }

    private static void holdNew() {
        HandCases x = new HandCases(1);
        Make.houses(x, 0, 0, 199);
        int[] houses = {0, 199};
        for (int house : houses) {
            CHECK.same("not held at first", x.hold(house, false), false);
            CHECK.same("held", x.hold(house, true), true);
            CHECK.same("held already", x.hold(house, true), false);
            CHECK.same("not any more", x.hold(house, false), true);
            CHECK.same("not held already", x.hold(house, false), false);
            CHECK.same("held once more", x.hold(house, true), true);
        }
        same("held ones", x.count(4), 2);
    }

    private static void holdNoHouse() {
        HandCases x = Make.one(1, 0);
        x.item(99, BULKY);
        int[] none = {-1, 0, 6, 8, 99, 199, 200, Make.LEAST, Make.MOST};
        for (int house : none) {
            CHECK.same("hold(" + house + ", true)", x.hold(house, true), false);
            CHECK.same("hold(" + house + ", false)", x.hold(house, false), false);
            CHECK.same("hold(" + house + ", true), again", x.hold(house, true), false);
        }
        same("held ones", x.count(4), 0);
        x.house(0, 99);
        same("held ones when it is told", x.count(4), 0);
        same("it is not held", Ask.list(x, 0), "0");
    }

    /** Where some lie: 1 for those at the house's hole, 0 for those in another. */
    private static String home(HandCases x, int house, int items) {
        StringBuilder all = new StringBuilder();
        for (int item = 0; item < items; item++) {
            all.append(x.lies(item) == house ? 1 : 0);
        }
        return all.toString();
    }

    /** Six that lie wrong in one hole: which of them are drawn. Their x >>> 16 stand in the tests. */
    private static String drawn(int tape, int part, int whole) {
        HandCases x = Make.one(2, 1);
        Make.same(x, 6, 7, LETTER);
        for (int item = 0; item < 6; item++) {
            x.put(item, 0);
        }
        int found = x.sample(tape, part, whole);
        String all = home(x, 1, 6);
        same("sample(" + tape + ", " + part + ", " + whole + ")", found, all.replace("0", "").length());
        return all;
    }

    private static void sampleByHoles() {
        HandCases x = Make.one(40, 20);
        Make.same(x, 6, 7, LETTER);
        int[] holes = {39, 0, 21, 1, 19, 38};
        for (int item = 0; item < 6; item++) {
            x.put(item, holes[item]);
        }
        // Tape 1 draws the third of six for 200 of 1000: the holes are 0 1 19 21 38 39.
        same("how many", x.sample(1, 200, 1000), 1);
        same("the one in hole 19", home(x, 20, 6), "000010");

        HandCases y = Make.one(40, 20);
        Make.same(y, 2, 7, LETTER);
        y.put(0, 0);
        y.put(1, 39);
        same("the first hole and the last", y.sample(1, 1, 1), 2);
    }

    private static void sampleLeads() {
        HandCases x = Make.one(2, 1);
        Make.same(x, 5, 7, LETTER);
        Make.same(x, 1, 7, BULKY);
        x.put(0, 0);
        x.put(3, 0);
        x.put(4, 0);
        x.bundle(0, 1);
        x.bundle(1, 2);
        // Tape 1 draws the third for 200 of 1000: those in hole 0 that lead are 0, 3 and 4.
        same("how many", x.sample(1, 200, 1000), 1);
        same("the third that leads", home(x, 1, 5), "00001");
        same("all, a bundle counts once", x.sample(1, 1, 1), 2);
        same("a bundle goes as a whole", home(x, 1, 5), "11111");
    }

    private static void sampleLayThere() {
        HandCases x = Make.one(3, 2);
        x.house(0, 8);
        x.point(8, 0);
        Make.items(x, LETTER, 7, 7, 8, 8);
        x.put(0, 0);
        x.put(1, 0);
        x.put(2, 2);
        x.put(3, 2);
        same("all", x.sample(1, 1, 1), 4);
        same("each went once", row(x, 4), "2 2 0 0");
        x.put(0, 0);
        x.put(3, 2);
        // In hole 0 lie 0 and 2, in hole 2 lie 1 and 3. Tape 0: 0 236 756 885 498 for 0 2 1 3; were 0 asked once more
        // in hole 2, then 3 would have 498.
        same("the first alone", x.sample(0, 1, 1000), 1);
        same("it went ahead", row(x, 4), "2 2 0 2");
        x.put(0, 0);
        same("the fourth is not drawn for 885", x.sample(0, 885, 1000), 1);
        same("so 3 stays", row(x, 4), "2 2 0 2");
        x.put(0, 0);
        same("the fourth is drawn for 886", x.sample(0, 886, 1000), 2);
        same("so 3 goes", row(x, 4), "2 2 0 0");
    }

    private static String row(HandCases x, int items) {
        StringBuilder all = new StringBuilder();
        for (int item = 0; item < items; item++) {
            all.append(item == 0 ? "" : " ").append(x.lies(item));
        }
        return all.toString();
    }

    private static void sampleAsTheyCame() {
        HandCases x = Make.one(2, 1);
        Make.same(x, 7, 7, FLAT);
        x.bundle(6, 0);
        for (int item = 6; item > 0; item--) {
            x.put(item, 0);
        }
        // Tape 1: 838 526 113 283 819 395 for 1 2 3 4 5 6, not as they were put, nor by what is behind.
        same("how many", x.sample(1, 396, 1000), 3);
        same("the third, the fourth and the sixth", home(x, 1, 7), "1001101");
    }

    private static void sampleForEach() {
        HandCases x = Make.one(2, 1);
        x.house(0, 8);
        x.point(8, 0);
        Make.items(x, LETTER, 8, 99, 8, 7);
        x.item(7, BULKY);
        x.item(199, LETTER);
        x.item(7, LETTER);
        x.put(1, 0);
        x.put(3, 0);
        x.put(6, 0);
        // In hole 0 lie 0 (right), 1 (no house), 2 (right), 3 and 6; 4 and 5 lie in none. Tape 1: 838 526 113 283 819.
        same("for those that lie right, but none for those in no hole", x.sample(1, 284, 1000), 1);
        same("the fourth is 3", x.lies(3), 1);
        same("the fifth is 6", x.lies(6), 0);
        same("3 is away, so the fourth is 6", x.sample(1, 284, 1000), 1);
        same("6 is home", x.lies(6), 1);
    }

    private static void sampleWrong() {
        HandCases x = Make.one(2, 1);
        Make.same(x, 3, 7, LETTER);
        x.put(1, 1);
        same("none is wrong", x.sample(1, 1, 1), 0);
        x.point(7, 0);
        same("what was told for one that was right stays", x.lies(1), 1);
        same("that one is wrong now", x.sample(1, 1, 1), 1);
        same("and came home", x.lies(1), 0);
    }

    private static void sampleHouseHasHole() {
        HandCases x = Make.one(2, 1);
        x.house(0, 8);
        Make.items(x, LETTER, 8, 99, 7);
        for (int item = 0; item < 3; item++) {
            x.put(item, 0);
        }
        same("all drawn, one goes", x.sample(1, 1, 1), 1);
        same("its house is at none", x.lies(0), 0);
        same("its number is no house", x.lies(1), 0);
        same("wrong ones", x.count(3), 2);
        x.point(8, 1);
        same("its house has a hole now", x.sample(1, 1, 1), 1);
        x.house(0, 99);
        same("a house now, at none", x.sample(1, 1, 1), 0);
        x.point(99, 1);
        same("all are home", x.sample(1, 1, 1) + x.count(3), 1);
    }

    private static void sampleToldIsGone() {
        HandCases x = Make.one(3, 1);
        Make.same(x, 2, 7, LETTER);
        x.put(0, 0);
        x.put(1, 1);
        same("one is wrong", x.sample(1, 1, 1), 1);
        same("at its house", x.lies(0), 1);
        x.point(7, 2);
        same("what was told is gone", x.lies(0), 2);
        same("what was told for the other one is not", x.lies(1), 1);
    }

    private static void sampleHowMany() {
        HandCases x = Make.one(2, 1);
        same("no items", x.sample(1, 1, 1), 0);
        for (int item = 0; item < 250; item++) {
            x.item(7, item % 2);
        }
        same("none wrong", x.sample(1, 1, 1), 0);
        for (int item = 0; item < 250; item++) {
            x.put(item, 0);
        }
        same("none drawn", x.sample(1, 0, 1), 0);
        same("wrong ones", x.count(3), 250);
        same("all", x.sample(1, 1, 1), 250);
        same("wrong ones then", x.count(3), 0);
        same("none any more", x.sample(1, 1, 1), 0);
    }

    private static void tapeAtFirst() {
        // Of the first, x >>> 16 modulo 1000 is part - 1.
        int[][] tapes = {{0, 1}, {1, 839}, {-1, 698}, {2, 677}, {12345, 237}, {-12345, 301},
            {Make.LEAST, 769}, {Make.MOST, 930}};
        for (int[] pair : tapes) {
            HandCases x = Make.one(2, 1);
            x.item(7, LETTER);
            x.put(0, 0);
            same("sample(" + pair[0] + ", " + (pair[1] - 1) + ", 1000)", x.sample(pair[0], pair[1] - 1, 1000), 0);
            same("sample(" + pair[0] + ", " + pair[1] + ", 1000)", x.sample(pair[0], pair[1], 1000), 1);
        }
    }

    private static void tapeWraps() {
        // Tape 1: 838 526 113 283 819 395; the least int: 768 468 988 117 266 927; the most: 929 177 630 718 481 226.
        same("tape 1 for 396", drawn(1, 396, 1000), "001101");
        same("tape 1 for 527", drawn(1, 527, 1000), "011101");
        same("the least for 268", drawn(Make.LEAST, 268, 1000), "000110");
        same("the least for 928", drawn(Make.LEAST, 928, 1000), "110111");
        same("the most for 227", drawn(Make.MOST, 227, 1000), "010001");
        same("the most for 719", drawn(Make.MOST, 719, 1000), "011111");
    }

    private static void tapeNotBelow0() {
        // x itself is below 0 for the 2nd, 4th and 5th of tape 1, for all but two of tape 2, for the first of -1.
        int[] tapes = {1, 2, -1, Make.LEAST, Make.MOST};
        for (int tape : tapes) {
            same("none of tape " + tape, drawn(tape, 0, 1000), "000000");
        }
        // Of -1: 48697 4409 9862 59486 8713 60994; of the least: 32768 21468 9988 22117 36266 16927.
        same("-1 modulo 7", drawn(-1, 1, 7), "000100");
        same("-1 modulo 7, below 6", drawn(-1, 6, 7), "100111");
        same("the least modulo 7, below 6", drawn(Make.LEAST, 6, 7), "100101");
    }

    private static void tapeModulo() {
        // Of tape 1: 16838 38526 10113 50283 63819 38395.
        same("modulo 2", drawn(1, 1, 2), "110000");
        same("modulo 3", drawn(1, 1, 3), "011110");
        same("modulo 10", drawn(1, 6, 10), "001101");
        same("modulo 999", drawn(1, 334, 999), "001100");
        same("modulo 999", drawn(1, 333, 999), "001000");
        same("modulo 1000", drawn(1, 284, 1000), "001100");
    }

    private static void tapeBelowPart() {
        same("113 is not below 113", drawn(1, 113, 1000), "000000");
        same("113 is below 114", drawn(1, 114, 1000), "001000");
        same("838 is not below 838", drawn(1, 838, 1000), "011111");
        same("838 is below 839", drawn(1, 839, 1000), "111111");
        same("0 is below 1", drawn(0, 1, 1000), "100000");
        same("0 is not below 0", drawn(0, 0, 1000), "000000");
    }

    private static void tapeNoneAndAll() {
        int[] wholes = {1, 2, 999, 1000};
        int[] tapes = {0, 1, -1, Make.LEAST, Make.MOST};
        for (int whole : wholes) {
            for (int tape : tapes) {
                same("none of " + whole + ", tape " + tape, drawn(tape, 0, whole), "000000");
                same("all of " + whole + ", tape " + tape, drawn(tape, whole, whole), "111111");
            }
        }
    }
}
