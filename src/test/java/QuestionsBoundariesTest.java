/** The boundaries of promises 9 to 17, whose calls only ask: each sentence has a test of its own. */
public final class QuestionsBoundariesTest {
    private static final int LETTER = Make.LETTER;
    private static final int FLAT = Make.FLAT;
    private static final int BULKY = Make.BULKY;
    private static final int NONE = HandCases.NONE;

    private static final Check CHECK = new Check("QuestionsBoundariesTest");

    public static void main(String[] args) {
        promises9To11();
        promises12To15();
        promises16And17();
        CHECK.end();
    }

    private static void promises9To11() {
        CHECK.sentence("9: how many, none", QuestionsBoundariesTest::sortNone);
        CHECK.sentence("9: how many, all 250", QuestionsBoundariesTest::sortAll);
        CHECK.sentence("9: in all FRAMES", QuestionsBoundariesTest::sortAllFrames);
        CHECK.sentence("10: ITEM i of a FRAME, the first and the last", QuestionsBoundariesTest::frameFirstAndLast);
        CHECK.sentence("10: of a full FRAME", QuestionsBoundariesTest::frameFull);
        CHECK.sentence("10: there are not so many", QuestionsBoundariesTest::frameNotSoMany);
        CHECK.sentence("10: no such CARRIER", QuestionsBoundariesTest::frameNoCarrier);
        CHECK.sentence("11: ITEM i of a LIST, the first and the last", QuestionsBoundariesTest::listFirstAndLast);
        CHECK.sentence("11: of a full LIST", QuestionsBoundariesTest::listFull);
        CHECK.sentence("11: the same, there are not so many", QuestionsBoundariesTest::listNotSoMany);
        CHECK.sentence("11: the same, no such CARRIER", QuestionsBoundariesTest::listNoCarrier);
    }

    private static void promises12To15() {
        CHECK.sentence("12: ITEM i of a house's DRAWER, the first and the last", QuestionsBoundariesTest::drawerItems);
        CHECK.sentence("12: of a full DRAWER", QuestionsBoundariesTest::drawerFull);
        CHECK.sentence("12: NONE if there are not so many", QuestionsBoundariesTest::drawerNotSoMany);
        CHECK.sentence("12: NONE if there is no such house", QuestionsBoundariesTest::drawerNoHouse);
        CHECK.sentence("13: ITEM i that is STRAY, the first and the last", QuestionsBoundariesTest::strayItems);
        CHECK.sentence("13: all are STRAY", QuestionsBoundariesTest::strayFull);
        CHECK.sentence("13: NONE", QuestionsBoundariesTest::strayNone);
        CHECK.sentence("14: the HOLE in which an ITEM lies", QuestionsBoundariesTest::liesIn);
        CHECK.sentence("14: by the one that LEADS it", QuestionsBoundariesTest::liesByTheLead);
        CHECK.sentence("14: NONE if there is none", QuestionsBoundariesTest::liesInNone);
        CHECK.sentence("14: NONE if no such ITEM", QuestionsBoundariesTest::liesNoItem);
        CHECK.sentence("15: THE TIME of a CARRIER, each its own", QuestionsBoundariesTest::minutesOfEach);
        CHECK.sentence("15: no such CARRIER", QuestionsBoundariesTest::minutesNoCarrier);
    }

    private static void promises16And17() {
        CHECK.sentence("16: of those that are at HOLES", QuestionsBoundariesTest::teachingAtHoles);
        CHECK.sentence("16: by HOLES", QuestionsBoundariesTest::teachingByHoles);
        CHECK.sentence("16: then by CARRIERS", QuestionsBoundariesTest::teachingByCarriers);
        CHECK.sentence("16: then as in the ROUND", QuestionsBoundariesTest::teachingByRound);
        CHECK.sentence("16: what = 0, 1 and 2", QuestionsBoundariesTest::teachingWhats);
        CHECK.sentence("16: all 60", QuestionsBoundariesTest::teachingAll);
        CHECK.sentence("16: -1 there are not so many", QuestionsBoundariesTest::teachingNotSoMany);
        CHECK.sentence("16: -2 no such what", QuestionsBoundariesTest::teachingNoWhat);
        CHECK.sentence("17: 0 HOLES", QuestionsBoundariesTest::countHoles);
        CHECK.sentence("17: 1 houses", QuestionsBoundariesTest::countHouses);
        CHECK.sentence("17: 2 ITEMS", QuestionsBoundariesTest::countItems);
        CHECK.sentence("17: 3 WRONG ones that LEAD", QuestionsBoundariesTest::countWrong);
        CHECK.sentence("17: 4 houses that are HELD", QuestionsBoundariesTest::countHeld);
        CHECK.sentence("17: 5 ITEMS in FRAMES", QuestionsBoundariesTest::countFrames);
        CHECK.sentence("17: 6 in LISTS", QuestionsBoundariesTest::countLists);
        CHECK.sentence("17: 7 in DRAWERS", QuestionsBoundariesTest::countDrawers);
        CHECK.sentence("17: 8 STRAY", QuestionsBoundariesTest::countStray);
        CHECK.sentence("17: IndexOutOfBounds: another what", QuestionsBoundariesTest::countNoWhat);
    }

    private static void same(String call, long got, long due) {
        CHECK.same(call, got, due);
    }

    private static void same(String call, String got, String due) {
        CHECK.same(call, got, due);
    }

    /** 250 items of one kind for house 7 (carrier 0, at hole 1 of 2). */
    private static HandCases full(int kind) {
        HandCases x = Make.one(2, 1);
        Make.same(x, 250, 7, kind);
        return x;
    }

    /** For each carrier a house at a hole of its own (0, 10, 20, 30 at 0 .. 3) and one at none (1, 11, 21, 31). */
    private static HandCases four() {
        HandCases x = new HandCases(5);
        for (int carrier = 0; carrier < 4; carrier++) {
            x.house(carrier, 10 * carrier);
            x.house(carrier, 10 * carrier + 1);
            x.point(10 * carrier, carrier);
        }
        return x;
    }

    private static void sortNone() {
        HandCases x = Make.one(1, 0);
        same("no items", x.sort(), 0);
        x.item(7, BULKY);
        x.item(99, LETTER);
        same("one in the list, one stray", x.sort(), 0);
        x.item(7, LETTER);
        same("one", x.sort(), 1);
        x.hold(7, true);
        same("it is held", x.sort(), 0);
    }

    private static void sortAll() {
        HandCases x = full(FLAT);
        same("all at home", x.sort(), 250);
        x.put(249, 0);
        same("one is stray", x.sort(), 249);
    }

    private static void sortAllFrames() {
        HandCases x = four();
        for (int carrier = 0; carrier < 4; carrier++) {
            x.item(10 * carrier, LETTER);
            same("at home, carrier " + carrier, x.sort(), 2 * carrier + 1);
            x.item(10 * carrier + 1, FLAT);
            x.put(2 * carrier + 1, 3 - carrier);
            same("astray, at carrier " + (3 - carrier), x.sort(), 2 * carrier + 2);
        }
        x.item(99, LETTER);
        x.bundle(0, 8);
        same("with a bundle", x.sort(), 9);
    }

    private static void frameFirstAndLast() {
        HandCases x = four();
        for (int carrier = 0; carrier < 4; carrier++) {
            final int who = carrier;
            Make.same(x, 3, 10 * who, LETTER);
            same("the first of " + who, Ask.text(() -> x.frame(who, 0)), String.valueOf(3 * who));
            same("the last of " + who, Ask.text(() -> x.frame(who, 2)), String.valueOf(3 * who + 2));
            same("behind the last of " + who, Ask.text(() -> x.frame(who, 3)), Ask.BOUNDS);
        }
    }

    private static void frameFull() {
        HandCases x = full(LETTER);
        same("frame(0, 0)", Ask.text(() -> x.frame(0, 0)), "0");
        same("frame(0, 249)", Ask.text(() -> x.frame(0, 249)), "249");
        same("frame(0, 250)", Ask.text(() -> x.frame(0, 250)), Ask.BOUNDS);
        x.point(7, 0);
        x.put(0, 1);
        x.house(0, 8);
        x.point(8, 1);
        same("one astray, frame(0, 0)", Ask.text(() -> x.frame(0, 0)), "1");
        same("one astray, frame(0, 249)", Ask.text(() -> x.frame(0, 249)), "0");
        same("one astray, frame(0, 250)", Ask.text(() -> x.frame(0, 250)), Ask.BOUNDS);
    }

    private static void frameNotSoMany() {
        HandCases x = Make.one(1, 0);
        same("an empty one", Ask.text(() -> x.frame(0, 0)), Ask.BOUNDS);
        x.item(7, LETTER);
        same("one of one", Ask.text(() -> x.frame(0, 0)), "0");
        int[] outside = {-1, 1, 2, 249, 250, Make.LEAST, Make.MOST};
        for (int i : outside) {
            same("frame(0, " + i + ")", Ask.text(() -> x.frame(0, i)), Ask.BOUNDS);
        }
    }

    private static void frameNoCarrier() {
        HandCases x = four();
        int[] outside = {-1, 4, Make.LEAST, Make.MOST};
        int[] places = {0, -1, 1, Make.LEAST, Make.MOST};
        for (int who : outside) {
            for (int i : places) {
                same("frame(" + who + ", " + i + ")", Ask.text(() -> x.frame(who, i)), Ask.ARGUMENT);
            }
        }
        same("frame(3, 0)", Ask.text(() -> x.frame(3, 0)), Ask.BOUNDS);
    }

    private static void listFirstAndLast() {
        HandCases x = four();
        for (int carrier = 0; carrier < 4; carrier++) {
            final int who = carrier;
            Make.same(x, 3, 10 * who + 1, BULKY);
            same("the first of " + who, Ask.text(() -> x.list(who, 0)), String.valueOf(3 * who));
            same("the last of " + who, Ask.text(() -> x.list(who, 2)), String.valueOf(3 * who + 2));
            same("behind the last of " + who, Ask.text(() -> x.list(who, 3)), Ask.BOUNDS);
        }
    }

    private static void listFull() {
        HandCases x = full(BULKY);
        same("list(0, 0)", Ask.text(() -> x.list(0, 0)), "0");
        same("list(0, 249)", Ask.text(() -> x.list(0, 249)), "249");
        same("list(0, 250)", Ask.text(() -> x.list(0, 250)), Ask.BOUNDS);
    }

    private static void listNotSoMany() {
        HandCases x = Make.one(1, 0);
        same("an empty one", Ask.text(() -> x.list(0, 0)), Ask.BOUNDS);
        x.item(7, BULKY);
        same("one of one", Ask.text(() -> x.list(0, 0)), "0");
        int[] outside = {-1, 1, 2, 249, 250, Make.LEAST, Make.MOST};
        for (int i : outside) {
            same("list(0, " + i + ")", Ask.text(() -> x.list(0, i)), Ask.BOUNDS);
        }
    }

    private static void listNoCarrier() {
        HandCases x = four();
        int[] outside = {-1, 4, Make.LEAST, Make.MOST};
        int[] places = {0, -1, 1, Make.LEAST, Make.MOST};
        for (int who : outside) {
            for (int i : places) {
                same("list(" + who + ", " + i + ")", Ask.text(() -> x.list(who, i)), Ask.ARGUMENT);
            }
        }
        same("list(3, 0)", Ask.text(() -> x.list(3, 0)), Ask.BOUNDS);
    }

    private static void drawerItems() {
        HandCases x = new HandCases(1);
        Make.houses(x, 3, 0, 199);
        Make.items(x, BULKY, 0, 199, 199, 0, 199);
        x.hold(0, true);
        x.hold(199, true);
        same("drawer(0, 0)", x.drawer(0, 0), 0);
        same("drawer(0, 1)", x.drawer(0, 1), 3);
        same("drawer(0, 2)", x.drawer(0, 2), NONE);
        same("drawer(199, 0)", x.drawer(199, 0), 1);
        same("drawer(199, 2)", x.drawer(199, 2), 4);
        same("drawer(199, 3)", x.drawer(199, 3), NONE);
    }

    private static void drawerFull() {
        for (int kind = LETTER; kind <= BULKY; kind++) {
            HandCases x = full(kind);
            x.hold(7, true);
            same("drawer(7, 0)", x.drawer(7, 0), 0);
            same("drawer(7, 249)", x.drawer(7, 249), 249);
            same("drawer(7, 250)", x.drawer(7, 250), NONE);
        }
    }

    private static void drawerNotSoMany() {
        HandCases x = Make.one(1, 0);
        same("an empty one, not held", x.drawer(7, 0), NONE);
        x.item(7, LETTER);
        same("not held", x.drawer(7, 0), NONE);
        x.hold(7, true);
        same("one of one", x.drawer(7, 0), 0);
        int[] outside = {-1, 1, 2, 249, 250, Make.LEAST, Make.MOST};
        for (int i : outside) {
            same("drawer(7, " + i + ")", x.drawer(7, i), NONE);
        }
        x.house(0, 8);
        x.hold(8, true);
        same("an empty one, held", x.drawer(8, 0), NONE);
    }

    private static void drawerNoHouse() {
        HandCases x = Make.one(1, 0);
        x.item(7, LETTER);
        Make.items(x, BULKY, 0, 6, 8, 199);
        x.hold(7, true);
        int[] none = {-1, 0, 6, 8, 199, 200, Make.LEAST, Make.MOST};
        for (int house : none) {
            x.hold(house, true);
            same("drawer(" + house + ", 0)", x.drawer(house, 0), NONE);
            same("drawer(" + house + ", -1)", x.drawer(house, -1), NONE);
            same("drawer(" + house + ", 250)", x.drawer(house, 250), NONE);
        }
    }

    private static void strayItems() {
        HandCases x = Make.one(2, 1);
        Make.items(x, LETTER, 7, 99, 7);
        Make.items(x, BULKY, 7, 99);
        x.put(2, 0);
        same("stray(0)", x.stray(0), 1);
        same("stray(1)", x.stray(1), 2);
        same("stray(2)", x.stray(2), 4);
        same("stray(3)", x.stray(3), NONE);
    }

    private static void strayFull() {
        for (int kind = LETTER; kind <= BULKY; kind++) {
            HandCases x = new HandCases(1);
            Make.same(x, 250, 0, kind);
            same("stray(0)", x.stray(0), 0);
            same("stray(249)", x.stray(249), 249);
            same("stray(250)", x.stray(250), NONE);
        }
    }

    private static void strayNone() {
        HandCases x = Make.one(1, 0);
        same("no items", x.stray(0), NONE);
        Make.items(x, LETTER, 7, 99);
        same("one of one", x.stray(0), 1);
        int[] outside = {-1, 1, 2, 249, 250, Make.LEAST, Make.MOST};
        for (int i : outside) {
            same("stray(" + i + ")", x.stray(i), NONE);
        }
    }

    private static void liesIn() {
        HandCases x = Make.one(40, 0);
        Make.items(x, LETTER, 7, 99);
        Make.items(x, FLAT, 7);
        same("the first hole, its house's", x.lies(0), 0);
        x.put(1, 39);
        same("the last hole, told", x.lies(1), 39);
        x.put(2, 1);
        same("the second hole, told", x.lies(2), 1);
        x.point(7, 39);
        same("the last hole, its house's", x.lies(0), 39);
        x.put(2, 0);
        same("the first hole, told", x.lies(2), 0);
    }

    private static void liesByTheLead() {
        HandCases x = four();
        Make.items(x, LETTER, 0, 10, 20, 30, 99);
        x.bundle(3, 2);
        x.bundle(2, 1);
        x.bundle(1, 0);
        same("the last of four, its lead's house", x.lies(0), 3);
        x.put(3, 4);
        same("the last of four, told for its lead", x.lies(0), 4);
        same("the second of four", x.lies(2), 4);
        x.bundle(4, 3);
        same("the last of five, its lead lies in none", x.lies(0), NONE);
        same("the second of five", x.lies(3), NONE);
        x.put(4, 0);
        same("told for the new lead", x.lies(0), 0);
    }

    private static void liesInNone() {
        HandCases x = four();
        Make.items(x, LETTER, 1, 99, 199);
        Make.items(x, BULKY, 0, 1, 99);
        for (int item = 0; item < 6; item++) {
            same("lies(" + item + ")", x.lies(item), NONE);
        }
    }

    private static void liesNoItem() {
        HandCases x = Make.one(1, 0);
        int[] none = {0, -1, 1, 249, 250, Make.LEAST, Make.MOST};
        for (int item : none) {
            same("no items, lies(" + item + ")", x.lies(item), NONE);
        }
        x.item(7, LETTER);
        same("lies(0)", x.lies(0), 0);
        same("lies(1)", x.lies(1), NONE);
        HandCases y = full(LETTER);
        same("250 items, lies(249)", y.lies(249), 1);
        same("250 items, lies(250)", y.lies(250), NONE);
    }

    private static void minutesOfEach() {
        HandCases x = four();
        for (int carrier = 0; carrier < 4; carrier++) {
            Make.same(x, 8 * carrier, 10 * carrier + 1, BULKY);
        }
        same("0", x.minutes(0), 0);
        same("1: 5 + 8 * 7 = 61", x.minutes(1), 2);
        same("2: 5 + 16 * 7 = 117", x.minutes(2), 2);
        same("3: 5 + 24 * 7 = 173", x.minutes(3), 3);
        x.hold(11, true);
        same("1: held", x.minutes(1), 0);
        x.item(0, LETTER);
        x.put(48, 3);
        same("0: one is astray at another", x.minutes(0), 0);
        for (int i = 0; i < 3; i++) {
            x.item(30, LETTER);
        }
        same("3: 173 + 2 + 5 + 3 * 2 = 186", x.minutes(3), 4);
    }

    private static void minutesNoCarrier() {
        HandCases x = four();
        int[] outside = {-1, 4, Make.LEAST, Make.MOST};
        for (int who : outside) {
            same("minutes(" + who + ")", Ask.text(() -> x.minutes(who)), Ask.ARGUMENT);
        }
        same("minutes(0)", Ask.text(() -> x.minutes(0)), "0");
        same("minutes(3)", Ask.text(() -> x.minutes(3)), "0");
    }

    private static void teachingAtHoles() {
        HandCases x = new HandCases(2);
        same("no houses", Ask.teaching(x), "");
        Make.houses(x, 0, 5, 0, 9);
        same("none at a hole", Ask.teaching(x), "");
        x.point(9, 0);
        same("one at the first", Ask.teaching(x), "9@0/0");
        x.point(0, 1);
        same("one at the last", Ask.teaching(x), "9@0/0 0@1/0");
    }

    private static void teachingByHoles() {
        HandCases x = new HandCases(40);
        Make.houses(x, 0, 1, 2, 3);
        x.point(1, 39);
        x.point(2, 20);
        x.point(3, 0);
        same("holes 0, 20 and 39", Ask.teaching(x), "3@0/0 2@20/0 1@39/0");
        x.house(3, 4);
        x.point(4, 0);
        same("before the carriers", Ask.teaching(x), "3@0/0 4@0/3 2@20/0 1@39/0");
    }

    private static void teachingByCarriers() {
        HandCases x = new HandCases(1);
        for (int carrier = 3; carrier >= 0; carrier--) {
            x.house(carrier, 3 - carrier);
            x.point(3 - carrier, 0);
        }
        same("carriers 0 to 3, told the other way", Ask.teaching(x), "3@0/0 2@0/1 1@0/2 0@0/3");
    }

    private static void teachingByRound() {
        HandCases x = new HandCases(1);
        int[] numbers = {199, 0, 100};
        for (int number : numbers) {
            x.house(1, number);
        }
        int[] pointed = {100, 0, 199};
        for (int number : pointed) {
            x.point(number, 0);
        }
        same("as told, not by number nor as pointed", Ask.teaching(x), "199@0/1 0@0/1 100@0/1");
    }

    private static void teachingWhats() {
        HandCases x = new HandCases(40);
        x.house(3, 199);
        x.point(199, 39);
        same("0: the house", x.teaching(0, 0), 199);
        same("1: its hole", x.teaching(0, 1), 39);
        same("2: its carrier", x.teaching(0, 2), 3);
        HandCases y = new HandCases(1);
        y.house(0, 0);
        y.point(0, 0);
        same("0, 0 and 0", y.teaching(0, 0) + y.teaching(0, 1) + y.teaching(0, 2), 0);
    }

    private static void teachingAll() {
        HandCases x = new HandCases(40);
        for (int i = 0; i < 60; i++) {
            x.house(i % 4, i);
            x.point(i, i < 30 ? 39 : 0);
        }
        // In hole 0 are 30 .. 59: of carrier 0 32 36 .. 56, of 1 33 .. 57, of 2 30 .. 58, of 3 31 .. 59.
        same("the first", x.teaching(0, 0), 32);
        same("the last of carrier 0 in hole 0", x.teaching(6, 0), 56);
        same("the first of carrier 1 in hole 0", x.teaching(7, 0), 33);
        same("the last in hole 0", x.teaching(29, 0), 59);
        same("the first in hole 39", x.teaching(30, 0), 0);
        same("the 60th", x.teaching(59, 0), 27);
        same("its hole", x.teaching(59, 1), 39);
        same("its carrier", x.teaching(59, 2), 3);
        same("no 61st", x.teaching(60, 0), -1);
    }

    private static void teachingNotSoMany() {
        HandCases x = Make.one(1, 0);
        x.house(0, 8);
        same("one of one", x.teaching(0, 0), 7);
        int[] outside = {-1, 1, 2, 59, 60, Make.LEAST, Make.MOST};
        int[] whats = {0, 1, 2, 3, -1};
        for (int i : outside) {
            for (int what : whats) {
                same("teaching(" + i + ", " + what + ")", x.teaching(i, what), -1);
            }
        }
    }

    private static void teachingNoWhat() {
        HandCases x = Make.one(1, 0);
        int[] outside = {-1, 3, Make.LEAST, Make.MOST};
        for (int what : outside) {
            same("teaching(0, " + what + ")", x.teaching(0, what), -2);
        }
    }

    private static void countHoles() {
        int[] sizes = {1, 2, 39, 40};
        for (int n : sizes) {
            same("of " + n, new HandCases(n).count(0), n);
        }
    }

    private static void countHouses() {
        HandCases x = new HandCases(1);
        for (int i = 0; i < 60; i++) {
            same("before house " + i, x.count(1), i);
            x.house(i % 4, i);
        }
        same("all", x.count(1), 60);
        x.house(0, 60);
        same("behind the 61st", x.count(1), 60);
    }

    private static void countItems() {
        HandCases x = new HandCases(1);
        same("none", x.count(2), 0);
        Make.same(x, 249, 7, LETTER);
        same("249", x.count(2), 249);
        Make.same(x, 2, 7, BULKY);
        same("250 at most", x.count(2), 250);
        x.bundle(0, 1);
        same("those behind one too", x.count(2), 250);
    }

    private static void countWrong() {
        HandCases x = full(LETTER);
        same("none", x.count(3), 0);
        for (int item = 0; item < 250; item++) {
            x.put(item, 0);
        }
        same("all", x.count(3), 250);
        x.bundle(0, 1);
        same("those that lead", x.count(3), 249);
        x.put(0, 1);
        same("a bundle at home", x.count(3), 248);
        HandCases y = four();
        Make.items(y, FLAT, 0, 1, 99, 1, 99);
        y.put(0, 4);
        same("its house is at a hole", y.count(3), 1);
        y.put(1, 4);
        same("its house is at none", y.count(3), 2);
        y.put(2, 0);
        same("its number is no house", y.count(3), 3);
    }

    private static void countHeld() {
        HandCases x = new HandCases(1);
        for (int i = 0; i < 60; i++) {
            x.house(i % 4, i);
            x.hold(i, true);
            same("held " + i, x.count(4), i + 1);
        }
        x.hold(0, true);
        x.hold(199, true);
        same("nothing new", x.count(4), 60);
        x.hold(59, false);
        same("one not any more", x.count(4), 59);
    }

    private static void countFrames() {
        HandCases x = full(FLAT);
        same("all", x.count(5), 250);
        x.house(3, 8);
        x.point(8, 0);
        x.put(0, 0);
        same("one of them astray", x.count(5), 250);
        x.hold(7, true);
        same("that one alone", x.count(5), 1);
        x.bundle(0, 249);
        same("it and one behind it", x.count(5), 2);
        same("none in lists", x.count(6), 0);
        same("the others are in the drawer", x.count(7), 248);
    }

    private static void countLists() {
        HandCases x = full(BULKY);
        same("all", x.count(6), 250);
        same("none in frames", x.count(5), 0);
        x.hold(7, true);
        same("held", x.count(6), 0);
        HandCases y = four();
        Make.items(y, BULKY, 0, 1, 10, 11, 20, 21, 30, 31, 99);
        same("of all carriers", y.count(6), 8);
    }

    private static void countDrawers() {
        for (int kind = LETTER; kind <= BULKY; kind++) {
            HandCases x = full(kind);
            same("none", x.count(7), 0);
            x.hold(7, true);
            same("all", x.count(7), 250);
            same("none in frames and lists", x.count(5) + x.count(6), 0);
        }
        HandCases y = four();
        Make.items(y, LETTER, 0, 10, 20, 30, 99);
        y.bundle(0, 4);
        for (int carrier = 0; carrier < 4; carrier++) {
            y.hold(10 * carrier, true);
            same("of carriers up to " + carrier + ", with a bundle", y.count(7), carrier + 2);
        }
    }

    private static void countStray() {
        for (int kind = LETTER; kind <= BULKY; kind++) {
            HandCases x = new HandCases(1);
            same("none", x.count(8), 0);
            Make.same(x, 250, 199, kind);
            same("all", x.count(8), 250);
            x.house(0, 199);
            same("since it is a house", x.count(8), kind == BULKY ? 0 : 250);
            x.point(199, 0);
            same("since it is at a hole", x.count(8), 0);
        }
        HandCases y = Make.one(2, 0);
        Make.items(y, LETTER, 99, 7, 7);
        y.bundle(0, 1);
        y.put(2, 1);
        same("with a bundle, and one in no house's hole", y.count(8), 3);
    }

    private static void countNoWhat() {
        HandCases x = Make.one(40, 0);
        int[] outside = {-1, 9, Make.LEAST, Make.MOST};
        for (int what : outside) {
            same("count(" + what + ")", Ask.text(() -> x.count(what)), Ask.BOUNDS);
        }
        same("count(0)", Ask.text(() -> x.count(0)), "40");
        same("count(8)", Ask.text(() -> x.count(8)), "0");
    }
}
