/**
 * Each refusal by itself: the last values inside and the first ones outside on either side, the least and the most
 * int, the order in which refusals are tried; and all that is asked and told behind a refused call is as without it.
 */
public final class RefusalsTest {
    private static final int LETTER = Make.LETTER;
    private static final int FLAT = Make.FLAT;
    private static final int BULKY = Make.BULKY;
    private static final int LEAST = Make.LEAST;
    private static final int MOST = Make.MOST;

    private static final Check CHECK = new Check("RefusalsTest");

    interface Call {
        int of(HandCases x);
    }

    /** A case in some state, and all that is asked and told of it then. */
    interface Story {
        HandCases made();

        String goesOn(HandCases x);
    }

    public static void main(String[] args) {
        promise2();
        promise3();
        promise4();
        promise5();
        promise6();
        promise7And8();
        promise10And11();
        promise12To15();
        promise16And17();
        CHECK.end();
    }

    private static void promise2() {
        CHECK.sentence("2: -1 no such CARRIER", RefusalsTest::houseNoCarrier);
        CHECK.sentence("2: -2 no such number", RefusalsTest::houseNoNumber);
        CHECK.sentence("2: -3 it is told", RefusalsTest::houseTold);
        CHECK.sentence("2: -4 60 are", RefusalsTest::house60);
        CHECK.sentence("2: the first that fits", RefusalsTest::houseFirst);
    }

    private static void promise3() {
        CHECK.sentence("3: -1 no such house", RefusalsTest::pointNoHouse);
        CHECK.sentence("3: -2 no such HOLE", RefusalsTest::pointNoHole);
        CHECK.sentence("3: the first that fits", RefusalsTest::pointFirst);
    }

    private static void promise4() {
        CHECK.sentence("4: -2 the number", RefusalsTest::itemNoNumber);
        CHECK.sentence("4: -2 or the kind", RefusalsTest::itemNoKind);
        CHECK.sentence("4: -4", RefusalsTest::item250);
        CHECK.sentence("4: the first that fits", RefusalsTest::itemFirst);
    }

    private static void promise5() {
        CHECK.sentence("5: -1 no such ITEMS, the first one", RefusalsTest::bundleNoFirst);
        CHECK.sentence("5: -1 no such ITEMS, the second one", RefusalsTest::bundleNoSecond);
        CHECK.sentence("5: -3 one is bulky", RefusalsTest::bundleBulky);
        CHECK.sentence("5: -3 the second one is BEHIND one already", RefusalsTest::bundleSecondBehind);
        CHECK.sentence("5: -3 the first one has one BEHIND it", RefusalsTest::bundleFirstHasOne);
        CHECK.sentence("5: -3 or they are in one BUNDLE", RefusalsTest::bundleInOne);
        CHECK.sentence("5: the first that fits", RefusalsTest::bundleFirst);
    }

    private static void promise6() {
        CHECK.sentence("6: -1 no such ITEM", RefusalsTest::putNoItem);
        CHECK.sentence("6: -2 no such HOLE", RefusalsTest::putNoHole);
        CHECK.sentence("6: -3 it is bulky", RefusalsTest::putBulky);
        CHECK.sentence("6: -3 or does not LEAD", RefusalsTest::putNotLeading);
        CHECK.sentence("6: the first that fits", RefusalsTest::putFirst);
    }

    private static void promise7And8() {
        CHECK.sentence("7: false if it is not new", RefusalsTest::holdNotNew);
        CHECK.sentence("7: false if there is no such house", RefusalsTest::holdNoHouse);
        CHECK.sentence("8: -2 the whole is not 1 .. 1000", RefusalsTest::sampleWhole);
        CHECK.sentence("8: -2 or the part not 0 .. the whole", RefusalsTest::samplePart);
    }

    private static void promise10And11() {
        CHECK.sentence("10: IllegalArgument: no such CARRIER", RefusalsTest::frameNoCarrier);
        CHECK.sentence("10: IndexOutOfBounds: there are not so many", RefusalsTest::frameNotSoMany);
        CHECK.sentence("10: the first that fits", RefusalsTest::frameFirst);
        CHECK.sentence("11: IllegalArgument: no such CARRIER", RefusalsTest::listNoCarrier);
        CHECK.sentence("11: IndexOutOfBounds: there are not so many", RefusalsTest::listNotSoMany);
        CHECK.sentence("11: the first that fits", RefusalsTest::listFirst);
    }

    private static void promise12To15() {
        CHECK.sentence("12: NONE if there are not so many", RefusalsTest::drawerNotSoMany);
        CHECK.sentence("12: NONE or there is no such house", RefusalsTest::drawerNoHouse);
        CHECK.sentence("13: NONE", RefusalsTest::strayNotSoMany);
        CHECK.sentence("14: NONE if there is none", RefusalsTest::liesInNone);
        CHECK.sentence("14: NONE or no such ITEM", RefusalsTest::liesNoItem);
        CHECK.sentence("15: IllegalArgument: no such CARRIER", RefusalsTest::minutesNoCarrier);
    }

    private static void promise16And17() {
        CHECK.sentence("16: -1 there are not so many", RefusalsTest::teachingNotSoMany);
        CHECK.sentence("16: -2 no such what", RefusalsTest::teachingNoWhat);
        CHECK.sentence("16: the first that fits", RefusalsTest::teachingFirst);
        CHECK.sentence("17: IndexOutOfBounds: another what", RefusalsTest::countNoWhat);
        CHECK.sentence("9 to 17: what is asked changes nothing", RefusalsTest::questions);
    }

    /** Eleven items in all states, for four houses and two numbers that are none. */
    private static final class Small implements Story {
        private static final int[] HOUSES = {10, 20, 30, 40, 50, 99};

        @Override
        public HandCases made() {
            HandCases x = new HandCases(4);
            Make.houses(x, 0, 10);
            Make.houses(x, 1, 20);
            Make.houses(x, 0, 30);
            Make.houses(x, 2, 40);
            x.point(10, 0);
            x.point(20, 1);
            x.point(30, 2);
            int[] numbers = {10, 20, 30, 40, 99, 30, 99, 10, 20, 10, 30};
            int[] kinds = {LETTER, FLAT, BULKY, LETTER, FLAT, LETTER, BULKY, LETTER, LETTER, FLAT, LETTER};
            for (int i = 0; i < numbers.length; i++) {
                x.item(numbers[i], kinds[i]);
            }
            x.put(0, 0);
            x.put(1, 0);
            x.put(4, 3);
            x.put(8, 1);
            x.put(10, 0);
            x.bundle(0, 7);
            x.bundle(7, 9);
            x.bundle(5, 3);
            x.hold(20, true);
            return x;
        }

        @Override
        public String goesOn(HandCases x) {
            String asked = Ask.state(x, HOUSES);
            int[] told = {
                x.house(1, 50), x.house(3, 99), x.house(0, 11), x.house(1, 200),
                x.point(40, 2), x.point(10, 1), x.point(20, 0), x.point(99, 3), x.point(30, 3),
                x.item(99, LETTER), x.item(50, BULKY), x.item(10, FLAT), x.item(10, 3),
                x.bundle(9, 11), x.bundle(4, 10), x.bundle(1, 8), x.bundle(2, 6),
                x.hold(20, false) ? 1 : 0, x.hold(30, true) ? 1 : 0, x.hold(40, false) ? 1 : 0,
            };
            String then = Ask.state(x, HOUSES);
            int[] last = {
                x.put(0, 3), x.put(5, 0), x.put(13, 0), x.put(7, 0), x.put(2, 0),
                x.sample(7, 1, 2), x.sample(5, 2, 3), x.sample(0, 1, 1), x.point(10, 0), x.point(50, 0),
            };
            return asked + "\n" + row(told) + "\n" + then + "\n" + row(last) + "\n" + Ask.state(x, HOUSES);
        }
    }

    /** 60 houses of all carriers, three of them at holes. */
    private static final class AllHouses implements Story {
        @Override
        public HandCases made() {
            HandCases x = new HandCases(2);
            for (int number = 0; number < 60; number++) {
                x.house(number % 4, number);
            }
            x.point(0, 0);
            x.point(31, 1);
            x.point(59, 1);
            Make.items(x, LETTER, 0, 31, 59, 60, 199, 58);
            Make.items(x, BULKY, 0, 31, 59, 60, 199);
            return x;
        }

        @Override
        public String goesOn(HandCases x) {
            String asked = Ask.state(x, 0, 31, 59, 60, 199);
            int[] told = {
                x.point(60, 0), x.point(199, 0), x.point(58, 0), x.hold(60, true) ? 1 : 0, x.hold(59, true) ? 1 : 0,
                x.house(0, 61), x.item(58, LETTER), x.item(60, LETTER), x.put(3, 1), x.sample(1, 1, 1),
            };
            return asked + "\n" + row(told) + "\n" + Ask.state(x, 0, 31, 58, 59, 60, 199);
        }
    }

    /** 250 items for one house and one number that is none. */
    private static final class AllItems implements Story {
        @Override
        public HandCases made() {
            HandCases x = Make.one(2, 1);
            for (int i = 0; i < 250; i++) {
                x.item(i % 2 == 0 ? 7 : 8, i % 3);
            }
            return x;
        }

        @Override
        public String goesOn(HandCases x) {
            String asked = some(x);
            int[] told = {
                x.put(249, 0), x.put(250, 0), x.bundle(249, 0), x.bundle(0, 250), x.bundle(250, 0),
                x.sample(1, 1, 1), x.house(1, 8), x.point(8, 0), x.item(8, LETTER),
            };
            return asked + "\n" + row(told) + "\n" + some(x);
        }

        private static String some(HandCases x) {
            int[] items = {0, 1, 2, 124, 248, 249, 250};
            StringBuilder all = new StringBuilder(Ask.counts(x));
            for (int item : items) {
                final int i = item;
                all.append("; ").append(x.lies(i)).append(' ').append(x.stray(i))
                    .append(' ').append(Ask.text(() -> x.frame(0, i))).append(' ').append(Ask.text(() -> x.list(0, i)));
            }
            for (int carrier = 0; carrier < 4; carrier++) {
                all.append("; ").append(x.minutes(carrier));
            }
            return all.toString();
        }
    }

    private static final Story SMALL = new Small();
    private static final Story ALL_HOUSES = new AllHouses();
    private static final Story ALL_ITEMS = new AllItems();

    private static String row(int... numbers) {
        StringBuilder all = new StringBuilder();
        for (int number : numbers) {
            all.append(number).append(' ');
        }
        return all.toString();
    }

    /** The call answers what is due, a second time too, and whatever comes behind it is as without it. */
    private static void refused(Story story, String name, Call call, String due) {
        HandCases with = story.made();
        CHECK.same(name, Ask.text(() -> call.of(with)), due);
        CHECK.same(name + ", again", Ask.text(() -> call.of(with)), due);
        sameParts("behind " + name, story.goesOn(with), story.goesOn(story.made()));
    }

    /** Of two long texts only the first part that differs is told. */
    private static void sameParts(String name, String got, String due) {
        String[] some = got.split("; |\n");
        String[] others = due.split("; |\n");
        int i = 0;
        while (i < some.length - 1 && i < others.length - 1 && some[i].equals(others[i])) {
            i++;
        }
        CHECK.same(name + ", part " + i, some[i], others[i]);
        CHECK.same(name + ", parts", some.length, others.length);
    }

    private static void refused(String name, Call call, String due) {
        refused(SMALL, name, call, due);
    }

    private static void refused(String name, Call call, int due) {
        refused(SMALL, name, call, String.valueOf(due));
    }

    private static void taken(String name, Call call, int due) {
        HandCases x = SMALL.made();
        CHECK.same(name, Ask.text(() -> call.of(x)), String.valueOf(due));
    }

    private static void houseNoCarrier() {
        taken("house(0, 50)", x -> x.house(0, 50), 3);
        taken("house(3, 50)", x -> x.house(3, 50), 1);
        int[] outside = {-1, 4, LEAST, MOST};
        for (int carrier : outside) {
            refused("house(" + carrier + ", 50)", x -> x.house(carrier, 50), -1);
        }
    }

    private static void houseNoNumber() {
        taken("house(1, 0)", x -> x.house(1, 0), 2);
        taken("house(1, 199)", x -> x.house(1, 199), 2);
        int[] outside = {-1, 200, LEAST, MOST};
        for (int number : outside) {
            refused("house(1, " + number + ")", x -> x.house(1, number), -2);
        }
    }

    private static void houseTold() {
        int[] told = {10, 20, 30, 40};
        for (int number : told) {
            for (int carrier = 0; carrier < 4; carrier++) {
                final int who = carrier;
                refused("house(" + who + ", " + number + ")", x -> x.house(who, number), -3);
            }
        }
        taken("one told by items alone", x -> x.house(3, 99), 1);
    }

    private static void house60() {
        HandCases y = new HandCases(1);
        for (int number = 0; number < 59; number++) {
            y.house(3, number);
        }
        CHECK.same("the 60th", y.house(3, 199), 60);
        CHECK.same("the 61st", y.house(3, 198), -4);
        int[] numbers = {60, 199};
        for (int number : numbers) {
            for (int carrier = 0; carrier < 4; carrier++) {
                final int who = carrier;
                refused(ALL_HOUSES, "the 61st, house(" + who + ", " + number + ")", x -> x.house(who, number), "-4");
            }
        }
    }

    private static void houseFirst() {
        refused("no such carrier, nor number", x -> x.house(-1, -1), -1);
        refused("no such carrier, nor number", x -> x.house(4, 200), -1);
        refused("no such carrier, and told", x -> x.house(4, 10), -1);
        refused(ALL_HOUSES, "no such carrier, and 60 are", x -> x.house(-1, 60), "-1");
        refused(ALL_HOUSES, "no such number, and 60 are", x -> x.house(0, 200), "-2");
        refused(ALL_HOUSES, "told, and 60 are", x -> x.house(3, 0), "-3");
    }

    private static void pointNoHouse() {
        taken("point(10, 3)", x -> x.point(10, 3), 1);
        int[] none = {-1, 0, 9, 11, 99, 199, 200, LEAST, MOST};
        for (int house : none) {
            refused("point(" + house + ", 3)", x -> x.point(house, 3), -1);
        }
    }

    private static void pointNoHole() {
        taken("point(40, 0)", x -> x.point(40, 0), 2);
        taken("point(40, 3)", x -> x.point(40, 3), 1);
        int[] outside = {-1, 4, 40, LEAST, MOST};
        for (int hole : outside) {
            refused("point(10, " + hole + ")", x -> x.point(10, hole), -2);
            refused("point(40, " + hole + ")", x -> x.point(40, hole), -2);
        }
    }

    private static void pointFirst() {
        refused("no such house, nor hole", x -> x.point(99, -1), -1);
        refused("no such house, nor hole", x -> x.point(-1, 4), -1);
    }

    private static void itemNoNumber() {
        taken("item(0, 0)", x -> x.item(0, LETTER), 11);
        taken("item(199, 0)", x -> x.item(199, LETTER), 11);
        int[] outside = {-1, 200, LEAST, MOST};
        for (int number : outside) {
            refused("item(" + number + ", 0)", x -> x.item(number, LETTER), -2);
            refused("item(" + number + ", 2)", x -> x.item(number, BULKY), -2);
        }
    }

    private static void itemNoKind() {
        taken("item(10, 0)", x -> x.item(10, LETTER), 11);
        taken("item(10, 2)", x -> x.item(10, BULKY), 11);
        int[] outside = {-1, 3, LEAST, MOST};
        for (int kind : outside) {
            refused("item(10, " + kind + ")", x -> x.item(10, kind), -2);
        }
    }

    private static void item250() {
        HandCases y = new HandCases(1);
        Make.same(y, 249, 0, BULKY);
        CHECK.same("the 250th", y.item(0, LETTER), 249);
        CHECK.same("the 251st", y.item(0, LETTER), -4);
        for (int kind = LETTER; kind <= BULKY; kind++) {
            final int of = kind;
            refused(ALL_ITEMS, "the 251st, item(0, " + of + ")", x -> x.item(0, of), "-4");
            refused(ALL_ITEMS, "the 251st, item(7, " + of + ")", x -> x.item(7, of), "-4");
            refused(ALL_ITEMS, "the 251st, item(199, " + of + ")", x -> x.item(199, of), "-4");
        }
    }

    private static void itemFirst() {
        refused("no such number, nor kind", x -> x.item(200, 3), -2);
        refused(ALL_ITEMS, "no such number, and 250 are", x -> x.item(-1, LETTER), "-2");
        refused(ALL_ITEMS, "no such number, and 250 are", x -> x.item(200, LETTER), "-2");
        refused(ALL_ITEMS, "no such kind, and 250 are", x -> x.item(7, -1), "-2");
        refused(ALL_ITEMS, "no such kind, and 250 are", x -> x.item(7, 3), "-2");
    }

    private static void bundleNoFirst() {
        taken("bundle(9, 1)", x -> x.bundle(9, 1), 4);
        taken("bundle(10, 1)", x -> x.bundle(10, 1), 2);
        int[] none = {-1, 11, 250, LEAST, MOST};
        for (int item : none) {
            refused("bundle(" + item + ", 1)", x -> x.bundle(item, 1), -1);
        }
    }

    private static void bundleNoSecond() {
        taken("bundle(1, 0)", x -> x.bundle(1, 0), 4);
        taken("bundle(1, 10)", x -> x.bundle(1, 10), 2);
        int[] none = {-1, 11, 250, LEAST, MOST};
        for (int next : none) {
            refused("bundle(1, " + next + ")", x -> x.bundle(1, next), -1);
            refused("bundle(" + next + ", " + next + ")", x -> x.bundle(next, next), -1);
        }
    }

    private static void bundleBulky() {
        refused("the first one", x -> x.bundle(2, 1), -3);
        refused("the second one", x -> x.bundle(1, 2), -3);
        refused("the first one, a bundle's lead behind it", x -> x.bundle(6, 0), -3);
        refused("the second one, behind a bundle's last", x -> x.bundle(9, 6), -3);
        refused("both", x -> x.bundle(2, 6), -3);
        refused("behind itself", x -> x.bundle(2, 2), -3);
    }

    private static void bundleSecondBehind() {
        refused("the second of three", x -> x.bundle(1, 7), -3);
        refused("the last of three", x -> x.bundle(1, 9), -3);
        refused("the last of two, behind the last of three", x -> x.bundle(9, 3), -3);
        taken("the first of three", x -> x.bundle(1, 0), 4);
    }

    private static void bundleFirstHasOne() {
        refused("the first of three", x -> x.bundle(0, 1), -3);
        refused("the second of three", x -> x.bundle(7, 1), -3);
        refused("the first of two, the first of three behind it", x -> x.bundle(5, 0), -3);
        taken("the last of three", x -> x.bundle(9, 1), 4);
    }

    private static void bundleInOne() {
        refused("the first of two behind the last", x -> x.bundle(3, 5), -3);
        refused("the first of three behind the last", x -> x.bundle(9, 0), -3);
        refused("one alone behind itself", x -> x.bundle(1, 1), -3);
        refused("the last behind itself", x -> x.bundle(9, 9), -3);
        refused("the same again", x -> x.bundle(0, 7), -3);
        taken("the first of two behind the last of three", x -> x.bundle(9, 5), 5);
    }

    private static void bundleFirst() {
        refused("no such item, one is bulky", x -> x.bundle(2, 11), -1);
        refused("no such item, one is bulky", x -> x.bundle(-1, 2), -1);
        refused("no such item, one is behind one", x -> x.bundle(11, 7), -1);
        refused("no such item, one has one behind it", x -> x.bundle(0, -1), -1);
    }

    private static void putNoItem() {
        taken("put(0, 0)", x -> x.put(0, 0), 0);
        taken("put(10, 0)", x -> x.put(10, 0), 1);
        int[] none = {-1, 11, 249, 250, LEAST, MOST};
        for (int item : none) {
            refused("put(" + item + ", 0)", x -> x.put(item, 0), -1);
        }
    }

    private static void putNoHole() {
        taken("put(0, 0)", x -> x.put(0, 0), 0);
        taken("put(0, 3)", x -> x.put(0, 3), 1);
        int[] outside = {-1, 4, 40, LEAST, MOST};
        for (int hole : outside) {
            refused("put(0, " + hole + ")", x -> x.put(0, hole), -2);
            refused("put(1, " + hole + ")", x -> x.put(1, hole), -2);
        }
    }

    private static void putBulky() {
        for (int hole = 0; hole < 4; hole++) {
            final int at = hole;
            refused("put(2, " + at + ")", x -> x.put(2, at), -3);
            refused("put(6, " + at + ")", x -> x.put(6, at), -3);
        }
    }

    private static void putNotLeading() {
        int[] behind = {3, 7, 9};
        for (int item : behind) {
            for (int hole = 0; hole < 4; hole++) {
                final int at = hole;
                refused("put(" + item + ", " + at + ")", x -> x.put(item, at), -3);
            }
        }
        taken("the first of a bundle", x -> x.put(5, 0), 1);
    }

    private static void putFirst() {
        refused("no such item, nor hole", x -> x.put(11, 4), -1);
        refused("no such item, nor hole", x -> x.put(-1, -1), -1);
        refused("no such hole, and bulky", x -> x.put(2, 4), -2);
        refused("no such hole, and bulky", x -> x.put(6, -1), -2);
        refused("no such hole, and behind one", x -> x.put(7, 4), -2);
        refused("no such hole, and behind one", x -> x.put(3, -1), -2);
    }

    private static int hold(HandCases x, int house, boolean on) {
        return x.hold(house, on) ? 1 : 0;
    }

    private static void holdNotNew() {
        taken("hold(20, false)", x -> hold(x, 20, false), 1);
        taken("hold(10, true)", x -> hold(x, 10, true), 1);
        refused("hold(20, true)", x -> hold(x, 20, true), 0);
        int[] free = {10, 30, 40};
        for (int house : free) {
            refused("hold(" + house + ", false)", x -> hold(x, house, false), 0);
        }
    }

    private static void holdNoHouse() {
        int[] none = {-1, 0, 99, 199, 200, LEAST, MOST};
        for (int house : none) {
            refused("hold(" + house + ", true)", x -> hold(x, house, true), 0);
            refused("hold(" + house + ", false)", x -> hold(x, house, false), 0);
        }
    }

    private static void sampleWhole() {
        taken("sample(1, 1, 1)", x -> x.sample(1, 1, 1), 2);
        taken("sample(1, 1000, 1000)", x -> x.sample(1, 1000, 1000), 2);
        int[] outside = {0, -1, 1001, LEAST, MOST};
        for (int whole : outside) {
            refused("sample(1, 0, " + whole + ")", x -> x.sample(1, 0, whole), -2);
            refused("sample(1, 1, " + whole + ")", x -> x.sample(1, 1, whole), -2);
            refused("sample(1, " + whole + ", " + whole + ")", x -> x.sample(1, whole, whole), -2);
        }
    }

    private static void samplePart() {
        int[] wholes = {1, 2, 999, 1000};
        for (int whole : wholes) {
            taken("sample(1, 0, " + whole + ")", x -> x.sample(1, 0, whole), 0);
            taken("sample(1, " + whole + ", " + whole + ")", x -> x.sample(1, whole, whole), 2);
            int[] outside = {-1, whole + 1, LEAST, MOST};
            for (int part : outside) {
                refused("sample(1, " + part + ", " + whole + ")", x -> x.sample(1, part, whole), -2);
            }
        }
    }

    private static void frameNoCarrier() {
        taken("frame(0, 0)", x -> x.frame(0, 0), 0);
        int[] outside = {-1, 4, LEAST, MOST};
        for (int carrier : outside) {
            refused("frame(" + carrier + ", 0)", x -> x.frame(carrier, 0), Ask.ARGUMENT);
        }
    }

    private static void frameNotSoMany() {
        taken("frame(0, 6)", x -> x.frame(0, 6), 10);
        int[] outside = {-1, 7, 250, LEAST, MOST};
        for (int i : outside) {
            refused("frame(0, " + i + ")", x -> x.frame(0, i), Ask.BOUNDS);
        }
        refused("an empty one", x -> x.frame(3, 0), Ask.BOUNDS);
    }

    private static void frameFirst() {
        refused("no such carrier, and not so many", x -> x.frame(-1, -1), Ask.ARGUMENT);
        refused("no such carrier, and not so many", x -> x.frame(4, 7), Ask.ARGUMENT);
    }

    private static void listNoCarrier() {
        taken("list(0, 0)", x -> x.list(0, 0), 2);
        int[] outside = {-1, 4, LEAST, MOST};
        for (int carrier : outside) {
            refused("list(" + carrier + ", 0)", x -> x.list(carrier, 0), Ask.ARGUMENT);
        }
    }

    private static void listNotSoMany() {
        taken("list(0, 0)", x -> x.list(0, 0), 2);
        int[] outside = {-1, 1, 250, LEAST, MOST};
        for (int i : outside) {
            refused("list(0, " + i + ")", x -> x.list(0, i), Ask.BOUNDS);
        }
        refused("an empty one", x -> x.list(3, 0), Ask.BOUNDS);
    }

    private static void listFirst() {
        refused("no such carrier, and not so many", x -> x.list(-1, -1), Ask.ARGUMENT);
        refused("no such carrier, and not so many", x -> x.list(4, 1), Ask.ARGUMENT);
    }

    private static void drawerNotSoMany() {
        taken("drawer(20, 0)", x -> x.drawer(20, 0), 8);
        int[] outside = {-1, 1, 250, LEAST, MOST};
        for (int i : outside) {
            refused("drawer(20, " + i + ")", x -> x.drawer(20, i), -1);
        }
        refused("not held, drawer(10, 0)", x -> x.drawer(10, 0), -1);
    }

    private static void drawerNoHouse() {
        int[] none = {-1, 0, 99, 199, 200, LEAST, MOST};
        for (int house : none) {
            refused("drawer(" + house + ", 0)", x -> x.drawer(house, 0), -1);
            refused("drawer(" + house + ", -1)", x -> x.drawer(house, -1), -1);
        }
    }

    private static void strayNotSoMany() {
        taken("stray(0)", x -> x.stray(0), 4);
        taken("stray(1)", x -> x.stray(1), 6);
        int[] outside = {-1, 2, 250, LEAST, MOST};
        for (int i : outside) {
            refused("stray(" + i + ")", x -> x.stray(i), -1);
        }
    }

    private static void liesInNone() {
        refused("bulky, of a house", x -> x.lies(2), -1);
        refused("bulky, of no house", x -> x.lies(6), -1);
        refused(ALL_HOUSES, "of no house", x -> x.lies(3), "-1");
        refused(ALL_HOUSES, "of a house at no hole", x -> x.lies(5), "-1");
    }

    private static void liesNoItem() {
        taken("lies(0)", x -> x.lies(0), 0);
        taken("lies(10)", x -> x.lies(10), 0);
        int[] none = {-1, 11, 249, 250, LEAST, MOST};
        for (int item : none) {
            refused("lies(" + item + ")", x -> x.lies(item), -1);
        }
        refused(ALL_ITEMS, "lies(250)", x -> x.lies(250), "-1");
    }

    private static void minutesNoCarrier() {
        taken("minutes(0)", x -> x.minutes(0), 1);
        taken("minutes(3)", x -> x.minutes(3), 0);
        int[] outside = {-1, 4, LEAST, MOST};
        for (int carrier : outside) {
            refused("minutes(" + carrier + ")", x -> x.minutes(carrier), Ask.ARGUMENT);
        }
    }

    private static void teachingNotSoMany() {
        taken("teaching(0, 0)", x -> x.teaching(0, 0), 10);
        taken("teaching(2, 0)", x -> x.teaching(2, 0), 30);
        int[] outside = {-1, 3, 60, LEAST, MOST};
        for (int i : outside) {
            for (int what = 0; what <= 2; what++) {
                final int of = what;
                refused("teaching(" + i + ", " + of + ")", x -> x.teaching(i, of), -1);
            }
        }
    }

    private static void teachingNoWhat() {
        taken("teaching(1, 0)", x -> x.teaching(1, 0), 20);
        taken("teaching(1, 1)", x -> x.teaching(1, 1), 1);
        taken("teaching(2, 2)", x -> x.teaching(2, 2), 0);
        int[] outside = {-1, 3, LEAST, MOST};
        for (int what : outside) {
            refused("teaching(0, " + what + ")", x -> x.teaching(0, what), -2);
            refused("teaching(2, " + what + ")", x -> x.teaching(2, what), -2);
        }
    }

    private static void teachingFirst() {
        refused("not so many, and no such what", x -> x.teaching(3, 3), -1);
        refused("not so many, and no such what", x -> x.teaching(-1, -1), -1);
        CHECK.same("none at all, and no such what", new HandCases(1).teaching(0, 3), -1);
    }

    private static void countNoWhat() {
        taken("count(0)", x -> x.count(0), 4);
        taken("count(8)", x -> x.count(8), 2);
        int[] outside = {-1, 9, LEAST, MOST};
        for (int what : outside) {
            refused("count(" + what + ")", x -> x.count(what), Ask.BOUNDS);
        }
    }

    private static void leavesAll(String name, Call call, int due) {
        refused(name, call, due);
    }

    private static void questions() {
        leavesAll("sort()", HandCases::sort, 7);
        leavesAll("frame(0, 3)", x -> x.frame(0, 3), 5);
        leavesAll("list(0, 0)", x -> x.list(0, 0), 2);
        leavesAll("drawer(20, 0)", x -> x.drawer(20, 0), 8);
        leavesAll("stray(1)", x -> x.stray(1), 6);
        leavesAll("lies(9)", x -> x.lies(9), 0);
        leavesAll("minutes(0)", x -> x.minutes(0), 1);
        leavesAll("teaching(1, 1)", x -> x.teaching(1, 1), 1);
        for (int what = 0; what <= 8; what++) {
            final int of = what;
            leavesAll("count(" + of + ")", x -> x.count(of), SMALL.made().count(of));
        }
        leavesAll("a sample of none", x -> x.sample(3, 0, 5), 0);
        leavesAll("a house told of its hole again", x -> x.point(10, 0), 1);
        leavesAll("an item told of its hole again", x -> x.put(1, 0), 1);
    }
}
