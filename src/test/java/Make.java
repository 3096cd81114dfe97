/** Several houses or items told at once. */
final class Make {
    static final int LETTER = 0;
    static final int FLAT = 1;
    static final int BULKY = 2;

    static final int LEAST = Integer.MIN_VALUE;
    static final int MOST = Integer.MAX_VALUE;

    private Make() {
    }

    static void houses(HandCases cases, int carrier, int... numbers) {
        for (int number : numbers) {
            cases.house(carrier, number);
        }
    }

    static void items(HandCases cases, int kind, int... numbers) {
        for (int number : numbers) {
            cases.item(number, kind);
        }
    }

    static void same(HandCases cases, int some, int number, int kind) {
        for (int i = 0; i < some; i++) {
            cases.item(number, kind);
        }
    }

    /** A case of so many holes, with one house of carrier 0, number 7, at a hole. */
    static HandCases one(int holes, int hole) {
        HandCases cases = new HandCases(holes);
        cases.house(0, 7);
        cases.point(7, hole);
        return cases;
    }

    /** A case of one hole, with houses 0 .. 59 of carrier 0, all of them there. */
    static HandCases sixty() {
        HandCases cases = new HandCases(1);
        for (int number = 0; number < 60; number++) {
            cases.house(0, number);
            cases.point(number, 0);
        }
        return cases;
    }
}
