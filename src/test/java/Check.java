/** What the tests share: feeding texts, and counting answers that are not the ones due. */
final class Check {
    private static int wrong = 0;
    private static int asked = 0;
    private static String about = "";

    private Check() {
    }

    /** What the answers from here on are about, told ahead of each that is not the one due. */
    static void about(String words) {
        about = words;
    }

    static void due(String call, long want, long got) {
        asked++;
        if (got != want) {
            wrong++;
            System.out.println(about + call + " answered " + got + ", due is " + want);
        }
    }

    static void due(String call, String want, String got) {
        asked++;
        if (!got.equals(want)) {
            wrong++;
            System.out.println(about + call + " answered " + got + ", due is " + want);
        }
    }

    static void due(String call, boolean want, boolean got) {
        due(call, want ? 1 : 0, got ? 1 : 0);
    }

    /** Feeds a text, eight signs to a long, the rest being zero bytes, which are left out. */
    static int feed(GlassStreet x, String text) {
        int answer = x.feed(0, 0, 0);
        for (int i = 0; i < text.length(); i += 24) {
            answer = x.feed(eight(text, i), eight(text, i + 8), eight(text, i + 16));
        }
        return answer;
    }

    static long eight(String text, int from) {
        long all = 0;
        for (int i = from; i < from + 8; i++) {
            all = all << 8 | (i < text.length() ? text.charAt(i) : 0);
        }
        return all;
    }

    static int street(GlassStreet x, String text) {
        feed(x, text);
        return x.street();
    }

    static int day(GlassStreet x, String text) {
        feed(x, text);
        return x.day();
    }

    /** A new object with a street that must be without a fault. */
    static GlassStreet made(String text) {
        GlassStreet x = new GlassStreet();
        due("street of " + text, 0, street(x, text));
        return x;
    }

    /** The fault of a kind at a place of a text. */
    static int fault(int kind, int place) {
        return kind + 16 * place;
    }

    /** The marks of a pane as they are shown, each as who, deed, cell and age. */
    static String marks(GlassStreet x, int pane) {
        StringBuilder all = new StringBuilder();
        for (int i = 0; i < 6 && x.shown(pane, i, 1) >= 0; i++) {
            all.append(i == 0 ? "" : " ");
            for (int what = 0; what < 4; what++) {
                int told = x.shown(pane, i, what);
                all.append(told < 0 ? "?" : Integer.toString(told));
            }
        }
        return all.toString();
    }

    /** All that can be asked of what stands, so that two such can be compared; some 20 calls and 30 for each pane. */
    static String state(GlassStreet x) {
        StringBuilder all = new StringBuilder();
        for (int what = 0; what < 12; what++) {
            all.append(x.count(what)).append(' ');
        }
        for (int pane = 0; pane < x.count(0); pane++) {
            all.append("| ");
            for (int what = 0; what < 6; what++) {
                all.append(x.pane(pane, what)).append(' ');
            }
            all.append(marks(x, pane)).append(' ');
        }
        all.append("| ");
        for (int person = 0; person < x.count(1); person++) {
            all.append(x.person(person)).append(' ');
        }
        return all.append("| ").append(x.where()).append(' ').append(x.judged(0)).append(' ').append(x.judged(2)).toString();
    }

    static void end() {
        System.out.println(asked + " answers, " + wrong + " not as due");
        if (wrong != 0) {
            System.exit(1);
        }
    }
}
