/** Each promise of the document by itself: ordinary inputs, the edges that it names, and wrong inputs. */
public final class PromisesTest {
    private static final int LETTER = 0;
    private static final int FLAT = 1;
    private static final int BULKY = 2;
    private static final int[] FAR_OFF = {Integer.MIN_VALUE, -1000, -1};

    private static final Check CHECK = new Check("PromisesTest");

    public static void main(String[] args) {
        promise1();
        promise2();
        promise3();
        promise4();
        promise5();
        promise5Refusals();
        promise6();
        promise7();
        promise8Tape();
        promise8Moves();
        promise8Refusals();
        promise9();
        promise10();
        promise10Astray();
        promise10Throws();
        promise11();
        promise12();
        promise13();
        promise14();
        promise15();
        promise15Houses();
        promise16();
        promise17();
        refusalsChangeNothing();
        CHECK.end();
    }

    private static void same(String call, long got, long due) {
        CHECK.same(call, got, due);
    }

    private static void same(String call, String got, String due) {
        CHECK.same(call, got, due);
    }

    /** Houses 10 (round of 0, hole 0), 20 (1, hole 1), 30 (0, hole 2), 40 (2, no hole), of a case of 4. */
    private static HandCases small() {
        HandCases x = new HandCases(4);
        x.house(0, 10);
        x.house(1, 20);
        x.house(0, 30);
        x.house(2, 40);
        x.point(10, 0);
        x.point(20, 1);
        x.point(30, 2);
        return x;
    }

    private static void promise1() {
        int[][] asked = {{1, 1}, {2, 2}, {39, 39}, {40, 40}, {41, 40}, {0, 1}, {-1, 1},
            {Integer.MAX_VALUE, 40}, {Integer.MIN_VALUE, 1}};
        for (int[] pair : asked) {
            HandCases x = new HandCases(pair[0]);
            String made = "1: new HandCases(" + pair[0] + "): ";
            same(made + "counts", Ask.counts(x), pair[1] + " 0 0 0 0 0 0 0 0");
            x.house(0, 0);
            same(made + "last hole", x.point(0, pair[1] - 1), 1);
            same(made + "hole too far", x.point(0, pair[1]), -2);
        }
    }

    private static void promise2() {
        HandCases x = new HandCases(3);
        same("2: house(0, 0)", x.house(0, 0), 1);
        same("2: house(0, 199)", x.house(0, 199), 2);
        same("2: house(3, 5)", x.house(3, 5), 1);
        same("2: told in the same round", x.house(0, 0), -3);
        same("2: told in another round", x.house(1, 199), -3);
        same("2: number 200", x.house(0, 200), -2);
        for (int low : FAR_OFF) {
            same("2: carrier " + low, x.house(low, 1), -1);
            same("2: number " + low, x.house(0, low), -2);
            same("2: the carrier fits first", x.house(low, low), -1);
        }
        same("2: carrier 4", x.house(4, 0), -1);
        same("2: a new one is at no hole", x.teaching(0, 0), -1);
        for (int i = 3; i < 60; i++) {
            same("2: house " + i, x.house(2, 10 + i), i - 2);
        }
        same("2: 60 are", x.house(2, 150), -4);
        same("2: 60 are, but this one is told", x.house(2, 0), -3);
        same("2: 60 are, but no such number", x.house(2, 200), -2);
        same("2: 60 are, but no such carrier", x.house(4, 150), -1);
        same("2: houses", x.count(1), 60);
    }

    private static void promise3() {
        HandCases x = new HandCases(3);
        x.house(0, 1);
        x.house(1, 2);
        x.house(2, 199);
        same("3: first at a hole", x.point(1, 2), 1);
        same("3: second, of another round", x.point(2, 2), 2);
        same("3: the same again", x.point(2, 2), 2);
        same("3: third", x.point(199, 2), 3);
        same("3: moved", x.point(1, 0), 1);
        same("3: two are left", x.point(199, 2), 2);
        same("3: no such house", x.point(3, 0), -1);
        same("3: no such house 200", x.point(200, 0), -1);
        same("3: no such hole", x.point(1, 3), -2);
        for (int low : FAR_OFF) {
            same("3: house " + low, x.point(low, 0), -1);
            same("3: hole " + low, x.point(1, low), -2);
            same("3: the house fits first", x.point(3, low), -1);
        }
        same("3: where they are", Ask.teaching(x), "1@0/0 2@2/1 199@2/2");
        x.item(1, LETTER);
        x.point(1, 1);
        same("3: what was told for no hole goes with its house", x.lies(0), 1);
        x.put(0, 1);
        x.point(1, 2);
        same("3: what was told for a hole stays", x.lies(0), 1);
        same("3: and is wrong then", x.count(3), 1);
    }

    private static void promise4() {
        HandCases x = new HandCases(3);
        same("4: item(0, 0)", x.item(0, LETTER), 0);
        same("4: item(199, 1)", x.item(199, FLAT), 1);
        same("4: item(0, 2)", x.item(0, BULKY), 2);
        same("4: number 200", x.item(200, LETTER), -2);
        same("4: kind 3", x.item(0, 3), -2);
        for (int low : FAR_OFF) {
            same("4: number " + low, x.item(low, LETTER), -2);
            same("4: kind " + low, x.item(0, low), -2);
        }
        for (int i = 3; i < 250; i++) {
            same("4: item " + i, x.item(i % 200, i % 3), i);
        }
        same("4: 250 are", x.item(0, LETTER), -4);
        same("4: 250 are, but no such number", x.item(200, LETTER), -2);
        same("4: 250 are, but no such kind", x.item(0, 3), -2);
        same("4: items", x.count(2), 250);
        same("4: last", x.lies(249), -1);
    }

    private static void promise5() {
        HandCases x = small();
        for (int i = 0; i < 6; i++) {
            x.item(i % 2 == 0 ? 10 : 20, i % 2);
        }
        x.put(4, 3);
        same("5: two", x.bundle(3, 4), 2);
        same("5: what was told for the second is gone", x.lies(4), 1);
        same("5: and it is wrong no more", x.count(3), 0);
        same("5: two others", x.bundle(1, 0), 2);
        same("5: a bundle behind a bundle", x.bundle(0, 3), 4);
        same("5: a flat behind a letter", x.bundle(4, 5), 5);
        same("5: frame", Ask.frame(x, 1), "1 0 3 4 5");
        same("5: frame of the others' carrier", Ask.frame(x, 0), "2");
        x.put(1, 2);
        same("5: told for the first", x.lies(5), 2);
        same("5: one more before all", x.bundle(2, 1), 6);
        same("5: all go with it", Ask.frame(x, 0), "2 1 0 3 4 5");
        same("5: all lie with it", x.lies(5), 0);
    }

    private static void promise5Refusals() {
        HandCases x = small();
        for (int i = 0; i < 5; i++) {
            x.item(10, LETTER);
        }
        x.item(10, BULKY);
        x.bundle(0, 1);
        x.bundle(1, 2);
        same("5: second is no item", x.bundle(0, 6), -1);
        same("5: first is no item", x.bundle(6, 3), -1);
        for (int low : FAR_OFF) {
            same("5: first is " + low, x.bundle(low, 3), -1);
            same("5: second is " + low, x.bundle(3, low), -1);
        }
        same("5: bulky, but no such item", x.bundle(5, 6), -1);
        same("5: first is bulky", x.bundle(5, 3), -3);
        same("5: second is bulky", x.bundle(3, 5), -3);
        same("5: second is behind one", x.bundle(3, 2), -3);
        same("5: first has one behind it", x.bundle(0, 3), -3);
        same("5: middle has one behind it", x.bundle(1, 3), -3);
        same("5: in one bundle", x.bundle(2, 0), -3);
        same("5: behind itself", x.bundle(3, 3), -3);
        same("5: again", x.bundle(0, 1), -3);
        same("5: nothing changed", Ask.frame(x, 0), "0 1 2 3 4");
    }

    private static void promise6() {
        HandCases x = small();
        x.item(10, LETTER);
        x.item(40, FLAT);
        x.item(99, LETTER);
        x.item(10, BULKY);
        x.item(10, LETTER);
        x.bundle(0, 4);
        same("6: in its house's", x.put(0, 0), 0);
        same("6: in another", x.put(0, 1), 1);
        same("6: where it lies", x.lies(0), 1);
        same("6: in one that is no house's", x.put(0, 3), 1);
        same("6: back", x.put(0, 0), 0);
        same("6: its house has no hole", x.put(1, 0), 1);
        same("6: its number is no house", x.put(2, 0), 1);
        same("6: wrong ones", x.count(3), 2);
        same("6: bulky", x.put(3, 0), -3);
        same("6: does not lead", x.put(4, 0), -3);
        same("6: bulky, but no such hole", x.put(3, 4), -2);
        same("6: does not lead, but no such hole", x.put(4, -1), -2);
        same("6: no such item", x.put(5, 0), -1);
        for (int low : FAR_OFF) {
            same("6: item " + low, x.put(low, 0), -1);
            same("6: hole " + low, x.put(0, low), -2);
            same("6: the item fits first", x.put(5, low), -1);
        }
        x.point(10, 3);
        same("6: what was told for it stays", x.lies(4), 0);
        same("6: wrong when its house is elsewhere", x.count(3), 3);
    }

    private static void promise7() {
        HandCases x = small();
        CHECK.same("7: not held at first", x.hold(10, false), false);
        CHECK.same("7: held", x.hold(10, true), true);
        CHECK.same("7: held again", x.hold(10, true), false);
        same("7: one is held", x.count(4), 1);
        CHECK.same("7: another", x.hold(40, true), true);
        same("7: two are held", x.count(4), 2);
        CHECK.same("7: not any more", x.hold(10, false), true);
        CHECK.same("7: not any more, again", x.hold(10, false), false);
        same("7: one is left", x.count(4), 1);
        int[] none = {-1, 0, 99, 200, Integer.MIN_VALUE, Integer.MAX_VALUE};
        for (int house : none) {
            CHECK.same("7: no such house " + house, x.hold(house, true), false);
            CHECK.same("7: no such house " + house, x.hold(house, false), false);
        }
        same("7: none of these is held", x.count(4), 1);
        x.house(3, 99);
        CHECK.same("7: told later, not held", x.hold(99, false), false);
    }

    /** Eight that lie wrong in hole 0: those that are drawn go home to hole 1, by item 1 or 0. */
    private static String drawn(int tape, int part, int whole) {
        HandCases x = new HandCases(2);
        x.house(0, 7);
        x.point(7, 1);
        for (int i = 0; i < 8; i++) {
            x.item(7, i % 2);
            x.put(i, 0);
        }
        int found = x.sample(tape, part, whole);
        StringBuilder all = new StringBuilder();
        int home = 0;
        for (int i = 0; i < 8; i++) {
            home += x.lies(i);
            all.append(x.lies(i));
        }
        same("8: how many of sample(" + tape + ", " + part + ", " + whole + ")", found, home);
        return all.toString();
    }

    private static void promise8Tape() {
        same("8: tape 1, 1 of 2", drawn(1, 1, 2), "11000010");
        same("8: tape 1, 1 of 3", drawn(1, 1, 3), "01111000");
        same("8: tape 1, 2 of 3", drawn(1, 2, 3), "01111100");
        same("8: tape 2, 1 of 2", drawn(2, 1, 2), "10010010");
        same("8: tape -1, 1 of 2", drawn(-1, 1, 2), "00110110");
        same("8: tape -5, 2 of 3", drawn(-5, 2, 3), "01001110");
        same("8: tape 2147483647, 1 of 3", drawn(Integer.MAX_VALUE, 1, 3), "00111000");
        same("8: tape 1, 526 of 1000", drawn(1, 526, 1000), "00110101");
        same("8: tape 1, 527 of 1000", drawn(1, 527, 1000), "01110101");
        same("8: none", drawn(1, 0, 1000), "00000000");
        same("8: all", drawn(1, 1000, 1000), "11111111");
        same("8: all of one", drawn(1, 1, 1), "11111111");
        same("8: none of one", drawn(1, 0, 1), "00000000");
    }

    private static void promise8Moves() {
        HandCases x = small();
        x.item(30, LETTER);
        x.item(10, LETTER);
        x.item(40, LETTER);
        x.item(99, LETTER);
        x.item(30, BULKY);
        x.item(10, FLAT);
        x.item(10, FLAT);
        x.item(30, FLAT);
        x.item(20, LETTER);
        x.put(0, 1);
        x.put(2, 1);
        x.put(3, 0);
        x.put(5, 3);
        x.put(7, 2);
        x.bundle(5, 6);
        // Hole 0 has 1 and 3, hole 1 has 0, 2 and 8, hole 2 has 7, hole 3 has 5 with 6 behind it: tape 5 draws
        // of 1 3 0 2 8 7 5 by 1 1 0 1 1 0 0 modulo 2, so 0, 7 and 5 are drawn, and 7 lies where it should.
        same("8: by holes, then as they came, bundles once, bulky ones not", x.sample(5, 1, 2), 2);
        same("8: home from an earlier hole, not drawn there again", x.lies(0), 2);
        same("8: a bundle goes home", x.lies(6), 0);
        same("8: its house has no hole", x.lies(2), 1);
        same("8: its number is no house", x.lies(3), 0);
        same("8: all, but none can go home", x.sample(5, 2, 2), 0);
        x.point(30, 3);
        same("8: what was told for those that went home is gone", x.lies(0), 3);
        same("8: what was told for others is not", x.lies(7), 2);
        same("8: nor is the one wrong that had no hole", x.count(3), 3);

        HandCases y = new HandCases(3);
        y.house(0, 1);
        y.house(0, 2);
        y.point(1, 2);
        y.point(2, 0);
        for (int i = 0; i < 4; i++) {
            y.item(1 + i / 2, LETTER);
        }
        y.put(0, 0);
        y.put(1, 0);
        y.put(2, 2);
        y.put(3, 2);
        // Hole 0 has 0 and 1, hole 2 has 2 and 3: tape 5 draws of these by 1 1 0 1 modulo 2.
        same("8: the third of four", y.sample(5, 1, 2), 1);
        same("8: the third is home", y.lies(2), 0);
        same("8: the fourth is not", y.lies(3), 2);
        // Tape 2 draws of 0 1 2 3 by 0 1 1 0: 0 goes ahead to hole 2, but what is drawn there first is 3.
        same("8: one that went ahead is not drawn once more", y.sample(2, 1, 2), 2);
        same("8: the first went ahead", y.lies(0), 2);
        same("8: the second stayed", y.lies(1), 0);
        same("8: the fourth is home", y.lies(3), 0);
    }

    private static void promise8Refusals() {
        HandCases x = small();
        x.item(10, LETTER);
        x.put(0, 1);
        int[][] bad = {{1, 0}, {0, 0}, {1, 1001}, {0, -1}, {-1, 5}, {6, 5}, {1001, 1000}, {2, 1},
            {0, Integer.MIN_VALUE}, {0, Integer.MAX_VALUE}, {Integer.MIN_VALUE, 1}, {Integer.MAX_VALUE, 1}, {-1, -1}};
        for (int[] pair : bad) {
            same("8: part " + pair[0] + " of " + pair[1], x.sample(1, pair[0], pair[1]), -2);
        }
        same("8: nothing changed", x.lies(0), 1);
        same("8: the most", x.sample(1, 1000, 1000), 1);
    }

    private static void promise9() {
        HandCases x = small();
        same("9: none", x.sort(), 0);
        x.item(10, LETTER);
        x.item(20, FLAT);
        x.item(10, BULKY);
        x.item(40, LETTER);
        x.item(99, LETTER);
        x.item(99, LETTER);
        same("9: at their houses", x.sort(), 2);
        x.bundle(1, 4);
        same("9: with a bundle", x.sort(), 3);
        x.put(5, 2);
        same("9: astray too", x.sort(), 4);
        x.put(5, 3);
        same("9: not what is stray", x.sort(), 3);
        x.hold(20, true);
        same("9: not what is in a drawer", x.sort(), 1);
        same("9: sorting changes nothing", Ask.frame(x, 0), "0");
    }

    private static void promise10() {
        HandCases x = small();
        int[] numbers = {30, 10, 20, 10, 30, 40, 99, 10};
        for (int number : numbers) {
            x.item(number, LETTER);
        }
        x.item(10, BULKY);
        x.item(10, FLAT);
        same("10: by the round, then as they came", Ask.frame(x, 0), "1 3 7 9 0 4");
        same("10: another carrier", Ask.frame(x, 1), "2");
        same("10: its house has no hole", Ask.frame(x, 2), "");
        x.bundle(9, 0);
        x.bundle(3, 6);
        same("10: bundles by their leads", Ask.frame(x, 0), "1 3 6 7 9 0 4");
        x.point(10, 3);
        same("10: the round tells, not the holes", Ask.frame(x, 0), "1 3 6 7 9 0 4");
        x.hold(10, true);
        same("10: what is held is not in it", Ask.frame(x, 0), "4");
        x.hold(10, false);
        x.put(1, 3);
        same("10: put in its house's hole", Ask.frame(x, 0), "1 3 6 7 9 0 4");
        x.point(40, 3);
        same("10: a hole for two", Ask.frame(x, 2), "5");
    }

    private static void promise10Astray() {
        HandCases x = small();
        x.house(3, 50);
        x.point(50, 3);
        int[] numbers = {50, 50, 99, 40, 10, 10, 30};
        for (int number : numbers) {
            x.item(number, FLAT);
        }
        x.put(0, 2);
        x.put(1, 0);
        x.put(2, 2);
        x.put(3, 0);
        x.bundle(1, 5);
        same("10: those astray by holes, then as they came", Ask.frame(x, 0), "4 6 1 5 3 0 2");
        x.put(6, 0);
        same("10: astray in the same frame", Ask.frame(x, 0), "4 1 5 3 6 0 2");
        x.hold(10, true);
        x.hold(50, true);
        same("10: what is held does not matter to those astray", Ask.frame(x, 0), "1 5 3 6 0 2");
        x.put(6, 3);
        same("10: the carrier at that hole", Ask.frame(x, 3), "6");
        x.point(20, 3);
        same("10: the least carrier, told before", Ask.frame(x, 1), "6");
        x.point(20, 1);
        x.house(2, 60);
        x.point(60, 3);
        same("10: the least carrier, told behind", Ask.frame(x, 2), "6");
        same("10: and no other", Ask.frame(x, 3), "");
    }

    private static void promise10Throws() {
        HandCases x = small();
        x.item(10, LETTER);
        same("10: frame(0, 0)", Ask.text(() -> x.frame(0, 0)), "0");
        int[] outside = {1, 2, 250, Integer.MAX_VALUE, -1, Integer.MIN_VALUE};
        int[] none = {-1, 4, Integer.MIN_VALUE, Integer.MAX_VALUE};
        for (int i : outside) {
            same("10: frame(0, " + i + ")", Ask.text(() -> x.frame(0, i)), Ask.BOUNDS);
            same("11: list(0, " + i + ")", Ask.text(() -> x.list(0, i)), Ask.BOUNDS);
        }
        for (int carrier : none) {
            same("10: frame(" + carrier + ", 0)", Ask.text(() -> x.frame(carrier, 0)), Ask.ARGUMENT);
            same("10: frame(" + carrier + ", -1)", Ask.text(() -> x.frame(carrier, -1)), Ask.ARGUMENT);
            same("11: list(" + carrier + ", 0)", Ask.text(() -> x.list(carrier, 0)), Ask.ARGUMENT);
            same("11: list(" + carrier + ", -1)", Ask.text(() -> x.list(carrier, -1)), Ask.ARGUMENT);
        }
    }

    private static void promise11() {
        HandCases x = small();
        int[] numbers = {30, 10, 40, 99, 10, 30, 20};
        for (int number : numbers) {
            x.item(number, BULKY);
        }
        x.item(10, LETTER);
        same("11: by the round, then as they came", Ask.list(x, 0), "1 4 0 5");
        same("11: another carrier", Ask.list(x, 1), "6");
        same("11: a house without a hole", Ask.list(x, 2), "2");
        same("11: no house", Ask.list(x, 3), "");
        x.hold(10, true);
        same("11: what is held is not in it", Ask.list(x, 0), "0 5");
        x.house(0, 99);
        same("11: a house told later", Ask.list(x, 0), "0 5 3");
    }

    private static void promise12() {
        HandCases x = small();
        int[] kinds = {LETTER, BULKY, FLAT, LETTER};
        for (int kind : kinds) {
            x.item(10, kind);
        }
        x.item(20, LETTER);
        x.item(10, LETTER);
        x.item(40, LETTER);
        x.item(40, BULKY);
        x.put(3, 1);
        x.bundle(0, 4);
        same("12: not held", Ask.drawer(x, 10), "");
        x.hold(10, true);
        same("12: all kinds as they came, with bundles, not what is astray", Ask.drawer(x, 10), "0 4 1 2 5");
        same("12: drawer(10, 5)", x.drawer(10, 5), -1);
        for (int low : FAR_OFF) {
            same("12: drawer(10, " + low + ")", x.drawer(10, low), -1);
            same("12: drawer(" + low + ", 0)", x.drawer(low, 0), -1);
        }
        same("12: drawer(10, 2147483647)", x.drawer(10, Integer.MAX_VALUE), -1);
        same("12: no such house", x.drawer(99, 0), -1);
        same("12: no such house 200", x.drawer(200, 0), -1);
        same("12: not in another", Ask.drawer(x, 20), "");
        x.hold(40, true);
        same("12: without a hole only what is bulky", Ask.drawer(x, 40), "7");
        x.hold(10, false);
        same("12: not held any more", Ask.drawer(x, 10), "");
    }

    private static void promise13() {
        HandCases x = small();
        same("13: none", x.stray(0), -1);
        x.item(40, LETTER);
        x.item(10, LETTER);
        x.item(99, BULKY);
        x.item(99, FLAT);
        x.item(10, FLAT);
        x.item(40, BULKY);
        x.item(20, LETTER);
        x.put(4, 3);
        x.bundle(0, 6);
        same("13: as they came, with bundles", Ask.stray(x), "0 6 2 3 4");
        same("13: behind the last", x.stray(5), -1);
        for (int low : FAR_OFF) {
            same("13: stray(" + low + ")", x.stray(low), -1);
        }
        same("13: stray(2147483647)", x.stray(Integer.MAX_VALUE), -1);
        x.hold(40, true);
        same("13: held without a hole, yet stray", Ask.stray(x), "0 6 2 3 4");
        x.point(40, 3);
        same("13: one in a house's hole is astray, one with a house at a hole goes there", Ask.stray(x), "2 3");
        x.house(1, 99);
        same("13: a house, but at no hole", Ask.stray(x), "3");
        x.put(3, 0);
        same("13: wrong in a house's hole", Ask.stray(x), "");

        HandCases y = small();
        int[] numbers = {10, 99, 99, 99};
        for (int number : numbers) {
            y.item(number, LETTER);
        }
        y.bundle(0, 1);
        y.bundle(3, 2);
        same("13: by the one that leads", Ask.stray(y), "3 2");
    }

    private static void promise14() {
        HandCases x = small();
        x.item(10, LETTER);
        x.item(30, FLAT);
        x.item(40, LETTER);
        x.item(99, LETTER);
        x.item(10, BULKY);
        same("14: its house's", x.lies(0), 0);
        same("14: its house's, a flat", x.lies(1), 2);
        same("14: its house has none", x.lies(2), -1);
        same("14: its number is no house", x.lies(3), -1);
        same("14: bulky", x.lies(4), -1);
        same("14: no such item", x.lies(5), -1);
        for (int low : FAR_OFF) {
            same("14: lies(" + low + ")", x.lies(low), -1);
        }
        same("14: lies(2147483647)", x.lies(Integer.MAX_VALUE), -1);
        x.put(0, 3);
        same("14: told", x.lies(0), 3);
        x.bundle(0, 1);
        x.bundle(1, 2);
        same("14: by the one that leads", x.lies(1) * 10 + x.lies(2), 33);
        x.bundle(3, 0);
        same("14: by another that leads", x.lies(2), -1);
    }

    /** The minutes of one carrier with so many letters, flats and bulky ones for one house. */
    private static int minutes(int letters, int flats, int bulky) {
        HandCases x = new HandCases(1);
        x.house(2, 5);
        x.point(5, 0);
        for (int i = 0; i < letters + flats + bulky; i++) {
            x.item(5, i < letters ? LETTER : i < letters + flats ? FLAT : BULKY);
        }
        return x.minutes(2);
    }

    private static void promise15() {
        same("15: nothing", minutes(0, 0, 0), 0);
        same("15: 5 + 2", minutes(1, 0, 0), 1);
        same("15: 5 + 54 = 59", minutes(27, 0, 0), 1);
        same("15: 5 + 52 + 3 = 60", minutes(26, 1, 0), 1);
        same("15: 5 + 56 = 61", minutes(28, 0, 0), 2);
        same("15: 5 + 7 + 48 = 60", minutes(24, 0, 1), 1);
        same("15: 5 + 7 + 46 + 3 = 61", minutes(23, 1, 1), 2);
        same("15: 5 + 49 + 6 = 60", minutes(0, 2, 7), 1);
        same("15: 5 + 56 = 61", minutes(0, 0, 8), 2);
        same("15: 5 + 250 * 7", minutes(0, 0, 250), 30);
        HandCases x = small();
        int[] none = {-1, 4, Integer.MIN_VALUE, Integer.MAX_VALUE};
        for (int carrier : none) {
            same("15: minutes(" + carrier + ")", Ask.text(() -> x.minutes(carrier)), Ask.ARGUMENT);
        }
        same("15: minutes(3)", x.minutes(3), 0);
    }

    private static void promise15Houses() {
        HandCases x = small();
        for (int i = 0; i < 30; i++) {
            x.item(20, LETTER);
            x.put(i, 2);
        }
        same("15: 60 seconds, all astray, no house", x.minutes(0), 1);
        x.item(40, BULKY);
        x.item(40, LETTER);
        x.bundle(0, 31);
        same("15: 62 seconds", x.minutes(0), 2);
        x.put(0, 1);
        same("15: 58 seconds are left", x.minutes(0), 1);
        x.item(10, BULKY);
        same("15: 58 + 7 + 5", x.minutes(0), 2);
        x.hold(10, true);
        same("15: what is held takes none", x.minutes(0), 1);
        same("15: a list alone", x.minutes(2), 1);

        HandCases y = new HandCases(2);
        y.house(0, 1);
        y.house(0, 2);
        y.house(1, 3);
        y.point(1, 0);
        y.point(2, 0);
        // Two houses of two letters each, and 14 flats behind one of these for a third: 10 + 8 + 42 = 60.
        int[] numbers = {1, 2, 1, 2};
        for (int number : numbers) {
            y.item(number, LETTER);
        }
        for (int i = 0; i < 14; i++) {
            y.item(3, FLAT);
            y.bundle(i == 0 ? 0 : 3 + i, 4 + i);
        }
        same("15: 5 for each house, by the one that leads: 60", y.minutes(0), 1);
        y.item(3, LETTER);
        y.bundle(17, 18);
        same("15: 62", y.minutes(0), 2);
        same("15: of a house at no hole", y.minutes(1), 0);

        HandCases z = new HandCases(1);
        z.house(0, 1);
        z.point(1, 0);
        for (int i = 0; i < 6; i++) {
            z.item(1, BULKY);
        }
        for (int i = 0; i < 6; i++) {
            z.item(1, LETTER);
        }
        same("15: one house in both counts once: 42 + 12 + 5 = 59", z.minutes(0), 1);
    }

    private static void promise16() {
        HandCases x = new HandCases(4);
        same("16: none", x.teaching(0, 0), -1);
        same("16: none, and no such what", x.teaching(0, 9), -1);
        x.house(1, 9);
        x.house(0, 8);
        x.house(1, 3);
        x.house(0, 4);
        x.house(3, 1);
        x.house(2, 0);
        x.point(3, 2);
        x.point(9, 2);
        x.point(4, 2);
        x.point(8, 3);
        x.point(1, 0);
        same("16: by holes, by carriers, by the round", Ask.teaching(x), "1@0/3 4@2/0 9@2/1 3@2/1 8@3/0");
        same("16: teaching(5, 0)", x.teaching(5, 0), -1);
        same("16: teaching(5, 3)", x.teaching(5, 3), -1);
        same("16: teaching(4, 3)", x.teaching(4, 3), -2);
        for (int low : FAR_OFF) {
            same("16: teaching(" + low + ", 0)", x.teaching(low, 0), -1);
            same("16: teaching(" + low + ", 3)", x.teaching(low, 3), -1);
            same("16: teaching(0, " + low + ")", x.teaching(0, low), -2);
        }
        same("16: teaching(2147483647, 0)", x.teaching(Integer.MAX_VALUE, 0), -1);
        same("16: teaching(0, 2147483647)", x.teaching(0, Integer.MAX_VALUE), -2);
        x.point(1, 3);
        same("16: moved", Ask.teaching(x), "4@2/0 9@2/1 3@2/1 8@3/0 1@3/3");
    }

    private static void promise17() {
        HandCases x = small();
        same("17: houses alone", Ask.counts(x), "4 4 0 0 0 0 0 0 0");
        int[] numbers = {10, 20, 30, 40, 99, 10, 20, 99, 30, 30};
        for (int i = 0; i < numbers.length; i++) {
            x.item(numbers[i], i < 5 ? LETTER : BULKY);
        }
        same("17: items", Ask.counts(x), "4 4 10 0 0 3 4 0 3");
        x.put(1, 0);
        same("17: one astray", Ask.counts(x), "4 4 10 1 0 3 4 0 3");
        x.put(4, 3);
        same("17: one wrong and stray", Ask.counts(x), "4 4 10 2 0 3 4 0 3");
        x.bundle(4, 0);
        same("17: behind a stray one", Ask.counts(x), "4 4 10 2 0 2 4 0 4");
        x.hold(30, true);
        same("17: one is held", Ask.counts(x), "4 4 10 2 1 1 2 3 4");
        int[] none = {-1, 9, Integer.MIN_VALUE, Integer.MAX_VALUE};
        for (int what : none) {
            same("17: count(" + what + ")", Ask.text(() -> x.count(what)), Ask.BOUNDS);
        }
    }

    private static void refusalsChangeNothing() {
        HandCases x = small();
        for (int i = 0; i < 6; i++) {
            x.item(10 + 10 * (i % 5), i % 3);
        }
        x.put(1, 0);
        x.bundle(0, 1);
        x.hold(30, true);
        String was = Ask.state(x, 10, 20, 30, 40, 50, 99);
        x.house(4, 50);
        x.house(0, 200);
        x.house(3, 10);
        x.point(99, 0);
        x.point(10, 4);
        x.item(200, 0);
        x.item(0, 3);
        x.bundle(0, 3);
        x.bundle(1, 0);
        x.bundle(3, 2);
        x.bundle(0, 6);
        x.put(6, 0);
        x.put(0, 4);
        x.put(1, 1);
        x.put(2, 1);
        x.hold(99, true);
        x.hold(30, true);
        x.sample(1, 2, 1);
        Ask.text(() -> x.frame(4, 0));
        Ask.text(() -> x.list(0, 99));
        Ask.text(() -> x.minutes(4));
        Ask.text(() -> x.count(9));
        x.sort();
        same("refusals change nothing", Ask.state(x, 10, 20, 30, 40, 50, 99), was);
    }
}
