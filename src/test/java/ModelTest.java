/** Long runs of calls, ordinary and wrong ones mixed, each answer compared with the model's. */
public final class ModelTest {
    private static final int RUNS = 480;
    // An object is used for so many calls; the last ones only ask, so that all that was told before is looked at.
    private static final int CALLS = 512;
    private static final int TELLING = 400;

    private final Check check;
    private final int run;
    private long seed;
    private final int holes;
    private final int numbers;
    private final HandCases cases;
    private final Model model;

    private ModelTest(Check check, int run) {
        this.check = check;
        this.run = run;
        this.seed = 977L * run + 13;
        this.holes = run % 10 == 0 ? 40 : 1 + below(8);
        this.numbers = run % 7 == 0 ? 200 : 4 + below(20);
        this.cases = new HandCases(holes);
        this.model = new Model(holes);
    }

    public static void main(String[] args) {
        Check check = new Check("ModelTest");
        for (int run = 0; run < RUNS && !check.failed(); run++) {
            new ModelTest(check, run).calls();
        }
        check.end();
    }

    // A small generator of its own, so that every run is the same again.
    private int below(int bound) {
        seed = seed * 6364136223846793005L + 1442695040888963407L;
        return (int) ((seed >>> 33) % bound);
    }

    private int near(int bound) {
        int kind = below(60);
        if (kind == 0) {
            return -1;
        }
        if (kind == 1) {
            return below(2) == 0 ? Integer.MIN_VALUE : Integer.MAX_VALUE;
        }
        return below(bound + (kind < 6 ? 1 : 0));
    }

    private int someItem() {
        return near(Math.max(1, model.items()));
    }

    private void same(String call, String got, String due) {
        check.same("run " + run + ": " + call, got, due);
    }

    private void same(String call, int got, int due) {
        same(call, String.valueOf(got), String.valueOf(due));
    }

    private void calls() {
        // Some runs fill the case with items or houses, so that their limits are reached.
        int eager = run % 3;
        for (int call = 0; call < CALLS && !check.failed(); call++) {
            int dice = call < TELLING ? below(100) : 70 + below(30);
            if (eager == 1 && call < 300) {
                tellItem();
            } else if (eager == 2 && call < 80) {
                tellHouse();
            } else if (dice < 12) {
                tellHouse();
            } else if (dice < 30) {
                tellItem();
            } else if (dice < 70) {
                change(dice);
            } else {
                ask(dice);
            }
        }
    }

    private void tellHouse() {
        int carrier = near(4);
        int number = below(12) == 0 ? near(200) : near(numbers);
        same("house(" + carrier + ", " + number + ")", cases.house(carrier, number), model.house(carrier, number));
    }

    private void tellItem() {
        int number = below(30) == 0 ? near(200) : near(numbers);
        int kind = near(3);
        same("item(" + number + ", " + kind + ")", cases.item(number, kind), model.item(number, kind));
    }

    private void change(int dice) {
        if (dice < 40) {
            int house = near(numbers);
            int hole = near(holes);
            same("point(" + house + ", " + hole + ")", cases.point(house, hole), model.point(house, hole));
        } else if (dice < 50) {
            int item = someItem();
            int next = someItem();
            same("bundle(" + item + ", " + next + ")", cases.bundle(item, next), model.bundle(item, next));
        } else if (dice < 60) {
            int item = someItem();
            int hole = near(holes);
            same("put(" + item + ", " + hole + ")", cases.put(item, hole), model.put(item, hole));
        } else if (dice < 65) {
            int house = near(numbers);
            boolean on = below(3) != 0;
            same("hold(" + house + ", " + on + ")", String.valueOf(cases.hold(house, on)),
                String.valueOf(model.hold(house, on)));
        } else {
            int tape = below(Integer.MAX_VALUE) * (below(2) == 0 ? 1 : -1);
            int whole = below(8) == 0 ? near(1001) : 1 + below(5);
            int part = near(Math.max(1, whole));
            same("sample(" + tape + ", " + part + ", " + whole + ")", cases.sample(tape, part, whole),
                model.sample(tape, part, whole));
        }
    }

    private void ask(int dice) {
        int carrier = near(4);
        int i = below(4) == 0 ? near(250) : near(20);
        if (dice < 74) {
            same("sort()", cases.sort(), model.sort());
        } else if (dice < 80) {
            same("frame(" + carrier + ", " + i + ")", Ask.text(() -> cases.frame(carrier, i)), model.frame(carrier, i));
        } else if (dice < 84) {
            same("list(" + carrier + ", " + i + ")", Ask.text(() -> cases.list(carrier, i)), model.list(carrier, i));
        } else if (dice < 88) {
            int house = near(numbers);
            same("drawer(" + house + ", " + i + ")", String.valueOf(cases.drawer(house, i)), model.drawer(house, i));
        } else if (dice < 91) {
            same("stray(" + i + ")", String.valueOf(cases.stray(i)), model.stray(i));
        } else if (dice < 93) {
            int item = someItem();
            same("lies(" + item + ")", cases.lies(item), model.lies(item));
        } else if (dice < 95) {
            same("minutes(" + carrier + ")", Ask.text(() -> cases.minutes(carrier)), model.minutes(carrier));
        } else if (dice < 97) {
            int what = near(3);
            same("teaching(" + i + ", " + what + ")", cases.teaching(i, what), model.teaching(i, what));
        } else {
            int what = near(9);
            same("count(" + what + ")", Ask.text(() -> cases.count(what)), model.count(what));
        }
    }
}
