import java.util.ArrayList;
import java.util.List;
import java.util.Map;
import java.util.TreeMap;

/** The document once more, told with lists of bundles and the whole Java library, to compare answers with. */
final class Model {
    static final class House {
        final int number;
        final int carrier;
        Integer hole;
        boolean held;

        House(int number, int carrier) {
            this.number = number;
            this.carrier = carrier;
        }
    }

    record Item(int id, int number, int kind) {
    }

    /** What hangs together; the first one leads. */
    static final class Bundle {
        final List<Item> parts = new ArrayList<>();
        Integer told;

        Item lead() {
            return parts.get(0);
        }
    }

    private final int holes;
    private final List<List<House>> rounds = new ArrayList<>();
    private final List<Item> items = new ArrayList<>();
    // By the number of the one that leads: as they came.
    private final TreeMap<Integer, Bundle> bundles = new TreeMap<>();

    Model(int holes) {
        this.holes = holes < 1 ? 1 : holes > 40 ? 40 : holes;
        for (int carrier = 0; carrier < 4; carrier++) {
            rounds.add(new ArrayList<>());
        }
    }

    int items() {
        return items.size();
    }

    private List<House> houses() {
        List<House> all = new ArrayList<>();
        rounds.forEach(all::addAll);
        return all;
    }

    private House houseOf(int number) {
        for (List<House> round : rounds) {
            for (House house : round) {
                if (house.number == number) {
                    return house;
                }
            }
        }
        return null;
    }

    private Bundle bundleOf(int item) {
        return bundles.values().stream().filter(b -> b.parts.contains(items.get(item))).findFirst().orElse(null);
    }

    private boolean isItem(int item) {
        return 0 <= item && item < items.size();
    }

    private Integer holeOf(Bundle bundle) {
        if (bundle.lead().kind() == 2) {
            return null;
        }
        if (bundle.told != null) {
            return bundle.told;
        }
        House house = houseOf(bundle.lead().number());
        return house == null ? null : house.hole;
    }

    private boolean wrong(Bundle bundle) {
        Integer hole = holeOf(bundle);
        House house = houseOf(bundle.lead().number());
        return hole != null && (house == null || !hole.equals(house.hole));
    }

    private List<Integer> ids(List<Bundle> some) {
        List<Integer> all = new ArrayList<>();
        some.forEach(b -> b.parts.forEach(p -> all.add(p.id())));
        return all;
    }

    /** Everything at its place: "F0" frames by house, "A0" astray by holes, "L0", "D17", "S". */
    private Map<String, List<Bundle>> places() {
        Map<String, List<Bundle>> all = new TreeMap<>();
        for (Bundle bundle : bundles.values()) {
            all.computeIfAbsent(place(bundle), k -> new ArrayList<>()).add(bundle);
        }
        return all;
    }

    private String place(Bundle bundle) {
        House house = houseOf(bundle.lead().number());
        boolean bulky = bundle.lead().kind() == 2;
        Integer hole = holeOf(bundle);
        if (bulky ? house == null : hole == null) {
            return "S";
        }
        if (!bulky && wrong(bundle)) {
            int least = houses().stream().filter(h -> hole.equals(h.hole)).mapToInt(h -> h.carrier).min().orElse(-1);
            return least < 0 ? "S" : "A" + least + ":" + hole;
        }
        return (house.held ? "D" : bulky ? "L" : "F") + house.number;
    }

    private List<Integer> at(Map<String, List<Bundle>> places, String place) {
        return ids(places.getOrDefault(place, List.of()));
    }

    private List<Integer> frameOf(int carrier) {
        Map<String, List<Bundle>> places = places();
        List<Integer> all = new ArrayList<>();
        for (House house : rounds.get(carrier)) {
            all.addAll(at(places, "F" + house.number));
        }
        for (int hole = 0; hole < holes; hole++) {
            all.addAll(at(places, "A" + carrier + ":" + hole));
        }
        return all;
    }

    private List<Integer> listOf(int carrier) {
        Map<String, List<Bundle>> places = places();
        List<Integer> all = new ArrayList<>();
        rounds.get(carrier).forEach(h -> all.addAll(at(places, "L" + h.number)));
        return all;
    }

    int house(int carrier, int number) {
        if (carrier < 0 || carrier > 3) {
            return -1;
        }
        if (number < 0 || number > 199) {
            return -2;
        }
        if (houseOf(number) != null) {
            return -3;
        }
        if (houses().size() == 60) {
            return -4;
        }
        rounds.get(carrier).add(new House(number, carrier));
        return rounds.get(carrier).size();
    }

    int point(int number, int hole) {
        House house = houseOf(number);
        if (house == null) {
            return -1;
        }
        if (hole < 0 || hole >= holes) {
            return -2;
        }
        house.hole = hole;
        return (int) houses().stream().filter(h -> h.hole != null && h.hole == hole).count();
    }

    int item(int number, int kind) {
        if (number < 0 || number > 199 || kind < 0 || kind > 2) {
            return -2;
        }
        if (items.size() == 250) {
            return -4;
        }
        Item item = new Item(items.size(), number, kind);
        items.add(item);
        Bundle alone = new Bundle();
        alone.parts.add(item);
        bundles.put(item.id(), alone);
        return item.id();
    }

    int bundle(int item, int next) {
        if (!isItem(item) || !isItem(next)) {
            return -1;
        }
        Bundle first = bundleOf(item);
        Bundle second = bundleOf(next);
        boolean last = first.parts.get(first.parts.size() - 1).id() == item;
        if (items.get(item).kind() == 2 || items.get(next).kind() == 2 || second.lead().id() != next
            || !last || first == second) {
            return -3;
        }
        bundles.remove(next);
        first.parts.addAll(second.parts);
        return first.parts.size();
    }

    int put(int item, int hole) {
        if (!isItem(item)) {
            return -1;
        }
        if (hole < 0 || hole >= holes) {
            return -2;
        }
        Bundle bundle = bundles.get(item);
        if (bundle == null || bundle.lead().kind() == 2) {
            return -3;
        }
        bundle.told = hole;
        return wrong(bundle) ? 1 : 0;
    }

    boolean hold(int number, boolean on) {
        House house = houseOf(number);
        boolean news = house != null && house.held != on;
        if (news) {
            house.held = on;
        }
        return news;
    }

    int sample(int tape, int part, int whole) {
        if (whole < 1 || whole > 1000 || part < 0 || part > whole) {
            return -2;
        }
        List<Bundle> lying = new ArrayList<>();
        for (int hole = 0; hole < holes; hole++) {
            for (Bundle bundle : bundles.values()) {
                if (holeOf(bundle) != null && holeOf(bundle) == hole) {
                    lying.add(bundle);
                }
            }
        }
        long x = tape & 0xffffffffL;
        int found = 0;
        for (Bundle bundle : lying) {
            x = (x * 1103515245L + 12345L) & 0xffffffffL;
            House house = houseOf(bundle.lead().number());
            if ((x / 65536) % whole < part && wrong(bundle) && house != null && house.hole != null) {
                bundle.told = null;
                found++;
            }
        }
        return found;
    }

    int sort() {
        int all = 0;
        for (int carrier = 0; carrier < 4; carrier++) {
            all += frameOf(carrier).size();
        }
        return all;
    }

    private static String nth(List<Integer> row, int i) {
        return i < 0 || i >= row.size() ? null : String.valueOf(row.get(i));
    }

    String frame(int carrier, int i) {
        if (carrier < 0 || carrier > 3) {
            return Ask.ARGUMENT;
        }
        String one = nth(frameOf(carrier), i);
        return one == null ? Ask.BOUNDS : one;
    }

    String list(int carrier, int i) {
        if (carrier < 0 || carrier > 3) {
            return Ask.ARGUMENT;
        }
        String one = nth(listOf(carrier), i);
        return one == null ? Ask.BOUNDS : one;
    }

    String drawer(int house, int i) {
        String one = nth(at(places(), "D" + house), i);
        return one == null ? "-1" : one;
    }

    String stray(int i) {
        String one = nth(at(places(), "S"), i);
        return one == null ? "-1" : one;
    }

    int lies(int item) {
        Integer hole = isItem(item) ? holeOf(bundleOf(item)) : null;
        return hole == null ? -1 : hole;
    }

    String minutes(int carrier) {
        if (carrier < 0 || carrier > 3) {
            return Ask.ARGUMENT;
        }
        int seconds = 7 * listOf(carrier).size();
        for (int id : frameOf(carrier)) {
            seconds += items.get(id).kind() == 0 ? 2 : 3;
        }
        Map<String, List<Bundle>> places = places();
        for (House house : rounds.get(carrier)) {
            seconds += places.containsKey("F" + house.number) || places.containsKey("L" + house.number) ? 5 : 0;
        }
        return String.valueOf(seconds % 60 == 0 ? seconds / 60 : seconds / 60 + 1);
    }

    int teaching(int i, int what) {
        List<House> all = new ArrayList<>();
        for (int hole = 0; hole < holes; hole++) {
            for (House house : houses()) {
                if (house.hole != null && house.hole == hole) {
                    all.add(house);
                }
            }
        }
        if (i < 0 || i >= all.size()) {
            return -1;
        }
        House house = all.get(i);
        return what == 0 ? house.number : what == 1 ? house.hole : what == 2 ? house.carrier : -2;
    }

    String count(int what) {
        int lists = 0;
        for (int carrier = 0; carrier < 4; carrier++) {
            lists += listOf(carrier).size();
        }
        Map<String, List<Bundle>> places = places();
        int drawers = houses().stream().mapToInt(h -> at(places, "D" + h.number).size()).sum();
        int[] all = {holes, houses().size(), items.size(), (int) bundles.values().stream().filter(this::wrong).count(),
            (int) houses().stream().filter(h -> h.held).count(), sort(), lists, drawers, at(places(), "S").size()};
        return what < 0 || what > 8 ? Ask.BOUNDS : String.valueOf(all[what]);
    }
}
