/** Calls that may throw, and whole rows, as texts. */
final class Ask {
    static final String ARGUMENT = "throws.IllegalArgumentException";
    static final String BOUNDS = "throws.IndexOutOfBoundsException";

    private static final int FAR = 300;

    private Ask() {
    }

    interface Call {
        int answer();
    }

    static String text(Call call) {
        try {
            return String.valueOf(call.answer());
        } catch (RuntimeException e) {
            return "throws." + e.getClass().getSimpleName();
        }
    }

    static String frame(HandCases cases, int carrier) {
        StringBuilder all = new StringBuilder();
        for (int i = 0; i < FAR; i++) {
            final int at = i;
            String one = text(() -> cases.frame(carrier, at));
            if (one.equals(BOUNDS)) {
                break;
            }
            all.append(all.length() == 0 ? "" : " ").append(one);
        }
        return all.toString();
    }

    static String list(HandCases cases, int carrier) {
        StringBuilder all = new StringBuilder();
        for (int i = 0; i < FAR; i++) {
            final int at = i;
            String one = text(() -> cases.list(carrier, at));
            if (one.equals(BOUNDS)) {
                break;
            }
            all.append(all.length() == 0 ? "" : " ").append(one);
        }
        return all.toString();
    }

    static String drawer(HandCases cases, int house) {
        StringBuilder all = new StringBuilder();
        for (int i = 0; i < FAR && cases.drawer(house, i) != HandCases.NONE; i++) {
            all.append(all.length() == 0 ? "" : " ").append(cases.drawer(house, i));
        }
        return all.toString();
    }

    static String stray(HandCases cases) {
        StringBuilder all = new StringBuilder();
        for (int i = 0; i < FAR && cases.stray(i) != HandCases.NONE; i++) {
            all.append(all.length() == 0 ? "" : " ").append(cases.stray(i));
        }
        return all.toString();
    }

    static String teaching(HandCases cases) {
        StringBuilder all = new StringBuilder();
        for (int i = 0; i < FAR && cases.teaching(i, 0) != -1; i++) {
            all.append(all.length() == 0 ? "" : " ").append(cases.teaching(i, 0))
                .append('@').append(cases.teaching(i, 1))
                .append('/').append(cases.teaching(i, 2));
        }
        return all.toString();
    }

    static String counts(HandCases cases) {
        StringBuilder all = new StringBuilder();
        for (int what = 0; what <= 8; what++) {
            all.append(all.length() == 0 ? "" : " ").append(cases.count(what));
        }
        return all.toString();
    }

    /** All that can be asked of an object, but for the single items' holes. */
    static String whole(HandCases cases) {
        StringBuilder all = new StringBuilder();
        for (int carrier = 0; carrier < 4; carrier++) {
            all.append(" F ").append(frame(cases, carrier)).append(" L ").append(list(cases, carrier))
                .append(" M ").append(cases.minutes(carrier));
        }
        for (int house = 0; house < 200; house++) {
            all.append(';').append(drawer(cases, house));
        }
        for (int item = 0; item < cases.count(2); item++) {
            all.append(',').append(cases.lies(item));
        }
        return all.append(" S ").append(stray(cases)).append(" T ").append(teaching(cases))
            .append(" C ").append(counts(cases)).toString();
    }
}
