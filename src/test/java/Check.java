/** What the tests share: feeding texts, and counting answers that are not the ones due. */
final class Check {
    private static int wrong = 0;
    private static int asked = 0;

    private Check() {
    }

    static void due(String call, long want, long got) {
        asked++;
        if (got != want) {
            wrong++;
            System.out.println(call + " answered " + got + ", due is " + want);
        }
    }

    static void due(String call, boolean want, boolean got) {
        due(call, want ? 1 : 0, got ? 1 : 0);
    }

    /** Feeds a text, eight signs to a long, the rest being zero bytes, which are left out. */
    static int feed(GlassStreet x, String text) {
        int answer = x.feed(0, 0, 0);
        for (int i = 0; i < text.length(); i += 24) {
            answer = x.feed(eight(text, i), eight(text, i + 8), eight(text, i + 16));
        }
        return answer;
    }

    static long eight(String text, int from) {
        long all = 0;
        for (int i = from; i < from + 8; i++) {
            all = all << 8 | (i < text.length() ? text.charAt(i) : 0);
        }
        return all;
    }

    static int street(GlassStreet x, String text) {
        feed(x, text);
        return x.street();
    }

    static int day(GlassStreet x, String text) {
        feed(x, text);
        return x.day();
    }

    /** A new object with a street that must be without a fault. */
    static GlassStreet made(String text) {
        GlassStreet x = new GlassStreet();
        due("street of " + text, 0, street(x, text));
        return x;
    }

    /** The fault of a kind at a place of a text. */
    static int fault(int kind, int place) {
        return kind + 16 * place;
    }

    static void end() {
        System.out.println(asked + " answers, " + wrong + " not as due");
        if (wrong != 0) {
            System.exit(1);
        }
    }
}
