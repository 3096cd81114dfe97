import java.util.Arrays;

/** Letters sorted by hand: what the class promises stands in the document HandCases. */
public final class HandCases {
    public static final int NONE = -1;

    private static final int UNKNOWN = -1;
    private static final int OUTSIDE = -2;
    private static final int NOT_IN_THIS_STATE = -3;
    private static final int NO_ROOM = -4;

    private static final int CARRIERS = 4;
    private static final int NUMBERS = 200;
    private static final int MOST_HOLES = 40;
    private static final int MOST_HOUSES = 60;
    private static final int MOST_ITEMS = 250;
    private static final int MOST_WHOLE = 1000;

    private static final int BULKY = 2;
    private static final int KINDS = 3;

    // By kind. What is bulky is in no frame, and all else in no list, so the kind alone tells the time.
    private static final int[] SECONDS = {2, 3, 7};
    private static final int SECONDS_OF_A_HOUSE = 5;
    private static final int SECONDS_OF_A_MINUTE = 60;

    private enum Place { STRAY, ASTRAY, DRAWER, LIST, FRAME }

    private final int holes;

    // By the number of the house; a number that is no house has no carrier, and so never a hole.
    private final int[] carrierOf = new int[NUMBERS];
    private final int[] holeOf = new int[NUMBERS];
    private final boolean[] held = new boolean[NUMBERS];

    // One row for all rounds: a round is what it has of its carrier, in its order.
    private final int[] told = new int[MOST_HOUSES];
    private int houses = 0;

    private final int[] numberOf = new int[MOST_ITEMS];
    private final int[] kindOf = new int[MOST_ITEMS];
    private final int[] toldHole = new int[MOST_ITEMS];
    private final int[] before = new int[MOST_ITEMS];
    private final int[] behind = new int[MOST_ITEMS];
    private int items = 0;

    // Made once and used again by every call, since what a run makes is counted.
    private final int[] row = new int[MOST_ITEMS];
    private int rowLength = 0;
    private final int[] lay = new int[MOST_ITEMS];

    public HandCases(int holes) {
        this.holes = Math.max(1, Math.min(MOST_HOLES, holes));
        Arrays.fill(carrierOf, NONE);
        Arrays.fill(holeOf, NONE);
    }

    public int house(int carrier, int number) {
        if (!isCarrier(carrier)) {
            return UNKNOWN;
        }
        if (!isNumber(number)) {
            return OUTSIDE;
        }
        if (isHouse(number)) {
            return NOT_IN_THIS_STATE;
        }
        if (houses >= MOST_HOUSES) {
            return NO_ROOM;
        }
        told[houses] = number;
        houses++;
        carrierOf[number] = carrier;
        return lengthOfRound(carrier);
    }

    public int point(int house, int hole) {
        if (!isHouse(house)) {
            return UNKNOWN;
        }
        if (!isHole(hole)) {
            return OUTSIDE;
        }
        holeOf[house] = hole;
        return housesAt(hole);
    }

    public int item(int number, int kind) {
        if (!isNumber(number) || kind < 0 || kind >= KINDS) {
            return OUTSIDE;
        }
        if (items >= MOST_ITEMS) {
            return NO_ROOM;
        }
        int item = items;
        numberOf[item] = number;
        kindOf[item] = kind;
        toldHole[item] = NONE;
        before[item] = NONE;
        behind[item] = NONE;
        items++;
        return item;
    }

    public int bundle(int item, int next) {
        if (!isItem(item) || !isItem(next)) {
            return UNKNOWN;
        }
        if (!mayBundle(item, next)) {
            return NOT_IN_THIS_STATE;
        }
        behind[item] = next;
        before[next] = item;
        toldHole[next] = NONE;
        return sizeOfBundle(leadOf(item));
    }

    public int put(int item, int hole) {
        if (!isItem(item)) {
            return UNKNOWN;
        }
        if (!isHole(hole)) {
            return OUTSIDE;
        }
        if (kindOf[item] == BULKY || !leads(item)) {
            return NOT_IN_THIS_STATE;
        }
        toldHole[item] = hole;
        return isWrong(item) ? 1 : 0;
    }

    public boolean hold(int house, boolean on) {
        if (!isHouse(house) || held[house] == on) {
            return false;
        }
        held[house] = on;
        return true;
    }

    public int sample(int tape, int part, int whole) {
        if (whole < 1 || whole > MOST_WHOLE || part < 0 || part > whole) {
            return OUTSIDE;
        }
        noteWhereAllLie();
        int x = tape;
        int found = 0;
        for (int hole = 0; hole < holes; hole++) {
            for (int item = 0; item < items; item++) {
                if (lay[item] == hole) {
                    x = x * 1103515245 + 12345;
                    if ((x >>> 16) % whole < part && bringHome(item)) {
                        found++;
                    }
                }
            }
        }
        return found;
    }

    public int sort() {
        return itemsInFrames();
    }

    public int frame(int carrier, int i) throws IllegalArgumentException, IndexOutOfBoundsException {
        if (!isCarrier(carrier)) {
            throw new IllegalArgumentException("no such carrier");
        }
        lineUpFrame(carrier);
        if (i < 0 || i >= rowLength) {
            throw new IndexOutOfBoundsException("not so many in the frame");
        }
        return row[i];
    }

    public int list(int carrier, int i) throws IllegalArgumentException, IndexOutOfBoundsException {
        if (!isCarrier(carrier)) {
            throw new IllegalArgumentException("no such carrier");
        }
        rowLength = 0;
        addRound(carrier, Place.LIST);
        if (i < 0 || i >= rowLength) {
            throw new IndexOutOfBoundsException("not so many in the list");
        }
        return row[i];
    }

    public int drawer(int house, int i) {
        rowLength = 0;
        addOfHouse(house, Place.DRAWER);
        return inRow(i);
    }

    public int stray(int i) {
        rowLength = 0;
        for (int item = 0; item < items; item++) {
            if (leads(item) && placeOf(item) == Place.STRAY) {
                addBundle(item);
            }
        }
        return inRow(i);
    }

    public int lies(int item) {
        return isItem(item) ? holeOfLead(leadOf(item)) : NONE;
    }

    public int minutes(int carrier) throws IllegalArgumentException {
        if (!isCarrier(carrier)) {
            throw new IllegalArgumentException("no such carrier");
        }
        return (secondsOf(carrier) + SECONDS_OF_A_MINUTE - 1) / SECONDS_OF_A_MINUTE;
    }

    public int teaching(int i, int what) {
        int house = houseByHoles(i);
        if (house == NONE) {
            return UNKNOWN;
        }
        switch (what) {
            case 0:
                return house;
            case 1:
                return holeOf[house];
            case 2:
                return carrierOf[house];
            default:
                return OUTSIDE;
        }
    }

    public int count(int what) throws IndexOutOfBoundsException {
        switch (what) {
            case 0:
                return holes;
            case 1:
                return houses;
            case 2:
                return items;
            case 3:
                return wrongOnes();
            case 4:
                return heldHouses();
            case 5:
                return itemsInFrames();
            case 6:
                return itemsAt(Place.LIST);
            case 7:
                return itemsAt(Place.DRAWER);
            case 8:
                return itemsAt(Place.STRAY);
            default:
                throw new IndexOutOfBoundsException("no such count");
        }
    }

    private boolean isCarrier(int carrier) {
        return carrier >= 0 && carrier < CARRIERS;
    }

    private boolean isNumber(int number) {
        return number >= 0 && number < NUMBERS;
    }

    private boolean isHouse(int number) {
        return isNumber(number) && carrierOf[number] != NONE;
    }

    private boolean isHole(int hole) {
        return hole >= 0 && hole < holes;
    }

    private boolean isItem(int item) {
        return item >= 0 && item < items;
    }

    private int lengthOfRound(int carrier) {
        int length = 0;
        for (int i = 0; i < houses; i++) {
            if (carrierOf[told[i]] == carrier) {
                length++;
            }
        }
        return length;
    }

    private int housesAt(int hole) {
        int there = 0;
        for (int i = 0; i < houses; i++) {
            if (holeOf[told[i]] == hole) {
                there++;
            }
        }
        return there;
    }

    private int leastCarrierAt(int hole) {
        int least = NONE;
        for (int i = 0; i < houses; i++) {
            int house = told[i];
            if (holeOf[house] == hole && (least == NONE || carrierOf[house] < least)) {
                least = carrierOf[house];
            }
        }
        return least;
    }

    private int houseByHoles(int i) {
        int passed = 0;
        for (int hole = 0; hole < holes; hole++) {
            for (int carrier = 0; carrier < CARRIERS; carrier++) {
                for (int k = 0; k < houses; k++) {
                    int house = told[k];
                    if (holeOf[house] == hole && carrierOf[house] == carrier) {
                        if (passed == i) {
                            return house;
                        }
                        passed++;
                    }
                }
            }
        }
        return NONE;
    }

    private int heldHouses() {
        int some = 0;
        for (int i = 0; i < houses; i++) {
            if (held[told[i]]) {
                some++;
            }
        }
        return some;
    }

    private boolean leads(int item) {
        return before[item] == NONE;
    }

    private int leadOf(int item) {
        int lead = item;
        for (int steps = 0; steps < MOST_ITEMS && before[lead] != NONE; steps++) {
            lead = before[lead];
        }
        return lead;
    }

    private int sizeOfBundle(int lead) {
        int size = 0;
        for (int item = lead; item != NONE && size < MOST_ITEMS; item = behind[item]) {
            size++;
        }
        return size;
    }

    private boolean mayBundle(int item, int next) {
        return kindOf[item] != BULKY && kindOf[next] != BULKY
            && leads(next) && behind[item] == NONE && leadOf(item) != next;
    }

    private int holeOfLead(int lead) {
        if (kindOf[lead] == BULKY) {
            return NONE;
        }
        return toldHole[lead] != NONE ? toldHole[lead] : holeOf[numberOf[lead]];
    }

    private boolean isWrong(int lead) {
        int hole = holeOfLead(lead);
        return hole != NONE && hole != holeOf[numberOf[lead]];
    }

    private int wrongOnes() {
        int some = 0;
        for (int item = 0; item < items; item++) {
            if (leads(item) && isWrong(item)) {
                some++;
            }
        }
        return some;
    }

    // Without this note, one brought to a hole further on would be drawn there again.
    private void noteWhereAllLie() {
        for (int item = 0; item < items; item++) {
            lay[item] = leads(item) ? holeOfLead(item) : NONE;
        }
    }

    private boolean bringHome(int lead) {
        if (!isWrong(lead) || holeOf[numberOf[lead]] == NONE) {
            return false;
        }
        toldHole[lead] = NONE;
        return true;
    }

    private Place placeOf(int lead) {
        int number = numberOf[lead];
        if (kindOf[lead] == BULKY) {
            if (!isHouse(number)) {
                return Place.STRAY;
            }
            return held[number] ? Place.DRAWER : Place.LIST;
        }
        int hole = holeOfLead(lead);
        if (hole == NONE) {
            return Place.STRAY;
        }
        if (isWrong(lead)) {
            return leastCarrierAt(hole) == NONE ? Place.STRAY : Place.ASTRAY;
        }
        return held[number] ? Place.DRAWER : Place.FRAME;
    }

    private int itemsAt(Place place) {
        int some = 0;
        for (int item = 0; item < items; item++) {
            if (leads(item) && placeOf(item) == place) {
                some += sizeOfBundle(item);
            }
        }
        return some;
    }

    private int itemsInFrames() {
        return itemsAt(Place.FRAME) + itemsAt(Place.ASTRAY);
    }

    private void lineUpFrame(int carrier) {
        rowLength = 0;
        addRound(carrier, Place.FRAME);
        addAstray(carrier);
    }

    private void addRound(int carrier, Place place) {
        for (int i = 0; i < houses; i++) {
            if (carrierOf[told[i]] == carrier) {
                addOfHouse(told[i], place);
            }
        }
    }

    private void addOfHouse(int house, Place place) {
        for (int item = 0; item < items; item++) {
            if (numberOf[item] == house && leads(item) && placeOf(item) == place) {
                addBundle(item);
            }
        }
    }

    private void addAstray(int carrier) {
        for (int hole = 0; hole < holes; hole++) {
            if (leastCarrierAt(hole) == carrier) {
                addAstrayAt(hole);
            }
        }
    }

    private void addAstrayAt(int hole) {
        for (int item = 0; item < items; item++) {
            if (leads(item) && holeOfLead(item) == hole && placeOf(item) == Place.ASTRAY) {
                addBundle(item);
            }
        }
    }

    private void addBundle(int lead) {
        for (int item = lead; item != NONE && rowLength < MOST_ITEMS; item = behind[item]) {
            row[rowLength] = item;
            rowLength++;
        }
    }

    private int inRow(int i) {
        return i >= 0 && i < rowLength ? row[i] : NONE;
    }

    // The order of the row does not matter here: each house is asked for both, to tell whether it has something.
    private int secondsOf(int carrier) {
        int seconds = 0;
        rowLength = 0;
        for (int i = 0; i < houses; i++) {
            if (carrierOf[told[i]] == carrier) {
                int was = rowLength;
                addOfHouse(told[i], Place.FRAME);
                addOfHouse(told[i], Place.LIST);
                if (rowLength > was) {
                    seconds += SECONDS_OF_A_HOUSE;
                }
            }
        }
        addAstray(carrier);
        return seconds + secondsOfRow();
    }

    private int secondsOfRow() {
        int seconds = 0;
        for (int i = 0; i < rowLength; i++) {
            seconds += SECONDS[kindOf[row[i]]];
        }
        return seconds;
    }
}
