/** Calls that may throw, and whole rows, as texts. */
final class Ask {
    static final String ARGUMENT = "throws.IllegalArgumentException";
    static final String BOUNDS = "throws.IndexOutOfBoundsException";

    private static final int FAR = 300;

    private Ask() {
    }

    interface Call {
        int answer();
    }

    static String text(Call call) {
        try {
            return String.valueOf(call.answer());
        } catch (RuntimeException e) {
            return "throws." + e.getClass().getSimpleName();
        }
    }

    static String frame(HandCases cases, int carrier) {
        StringBuilder all = new StringBuilder();
        for (int i = 0; i < FAR; i++) {
            final int at = i;
            String one = text(() -> cases.frame(carrier, at));
            if (one.equals(BOUNDS)) {
                break;
            }
            add(all, one);
        }
        return all.toString();
    }

    static String list(HandCases cases, int carrier) {
        StringBuilder all = new StringBuilder();
        for (int i = 0; i < FAR; i++) {
            final int at = i;
            String one = text(() -> cases.list(carrier, at));
            if (one.equals(BOUNDS)) {
                break;
            }
            add(all, one);
        }
        return all.toString();
    }

    static String drawer(HandCases cases, int house) {
        StringBuilder all = new StringBuilder();
        int item = cases.drawer(house, 0);
        for (int i = 1; i < FAR && item != HandCases.NONE; i++) {
            add(all, String.valueOf(item));
            item = cases.drawer(house, i);
        }
        return all.toString();
    }

    static String stray(HandCases cases) {
        StringBuilder all = new StringBuilder();
        int item = cases.stray(0);
        for (int i = 1; i < FAR && item != HandCases.NONE; i++) {
            add(all, String.valueOf(item));
            item = cases.stray(i);
        }
        return all.toString();
    }

    static String teaching(HandCases cases) {
        StringBuilder all = new StringBuilder();
        for (int i = 0; i < FAR; i++) {
            int house = cases.teaching(i, 0);
            if (house == -1) {
                break;
            }
            add(all, house + "@" + cases.teaching(i, 1) + "/" + cases.teaching(i, 2));
        }
        return all.toString();
    }

    static String counts(HandCases cases) {
        StringBuilder all = new StringBuilder();
        for (int what = 0; what <= 8; what++) {
            add(all, String.valueOf(cases.count(what)));
        }
        return all.toString();
    }

    /** All that can be asked of a case with these houses: for a small one some hundred calls of its 512. */
    static String state(HandCases cases, int... houses) {
        StringBuilder all = new StringBuilder("counts ").append(counts(cases));
        for (int carrier = 0; carrier < 4; carrier++) {
            all.append("; frame ").append(frame(cases, carrier)).append("; list ").append(list(cases, carrier))
                .append("; minutes ").append(cases.minutes(carrier));
        }
        for (int house : houses) {
            all.append("; drawer ").append(drawer(cases, house));
        }
        all.append("; stray ").append(stray(cases)).append("; teaching ").append(teaching(cases)).append("; lies");
        int items = cases.count(2);
        for (int item = 0; item < items; item++) {
            all.append(' ').append(cases.lies(item));
        }
        return all.toString();
    }

    private static void add(StringBuilder all, String one) {
        all.append(all.length() == 0 ? "" : " ").append(one);
    }
}
