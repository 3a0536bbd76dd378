import java.util.NoSuchElementException;
import java.util.Random;

/** Seeded runs of all calls, beside the model; none may throw but rests, and none may answer otherwise. */
public final class ModelTest {
    private static final int RUNS = 1500;
    private static final String[] NAMES = {"a", "b", "cc", "dd", "age", "bad", "x", "y", "zz", "abcdefgh", "lit", "newer",
        "p", "q", "r", "s", "t"};
    private static final String[] SPOILS = {"a", "zz", "pane", "person", "deed", "light", "fades", "keeps", "sees", "at", "harm",
        "walk", "does", "wash", "curtain", "stone", "hour", "not", "and", "or", "plain", "thick", "0", "1", "5", "7", "10",
        "99", "100", "9999", "00001", "0003", "abcdefghi", "(", ")", "<", "=", "+", "-", "*", ";", "&", "A", "age", "lit", ""};

    private final Random random;
    private final int run;
    private final GlassStreet x = new GlassStreet();
    private final Model y = new Model();
    private int calls = 0;
    private String[] names = NAMES.clone();
    private int panes = 0;
    private int people = 0;
    private int deeds = 0;

    private ModelTest(int run) {
        this.run = run;
        this.random = new Random(run);
    }

    public static void main(String[] args) {
        int runs = args.length > 0 ? Integer.parseInt(args[0]) : RUNS;
        for (int run = 0; run < runs; run++) {
            new ModelTest(run).play();
        }
        Check.end();
    }

    private int below(int m) {
        return random.nextInt(m);
    }

    private void due(String call, long want, long got) {
        calls++;
        if (want != got) {
            Check.due("run " + run + ", call " + calls + ": " + call, want, got);
        } else {
            Check.due(call, 0, 0);
        }
    }

    private static long bit(boolean is) {
        return is ? 1 : 0;
    }

    private void play() {
        if (below(10) > 0) {
            tell(street(), true);
        }
        // An object is used for at most 512 calls, and one choice makes up to 18.
        while (calls < 494) {
            int choice = below(100);
            if (choice < 1 && calls < 300) {
                tell(street(), true);
            } else if (choice < 3 && calls < 400) {
                tell(day(), false);
            } else if (choice < 60) {
                act();
            } else {
                ask();
            }
        }
    }

    private void tell(String text, boolean isStreet) {
        String fed = below(3) == 0 ? spoiled(text) : text;
        for (int i = 0; i < fed.length(); i += 24) {
            long a = Check.eight(fed, i);
            long b = Check.eight(fed, i + 8);
            long c = Check.eight(fed, i + 16);
            due("feed", y.feed(a, b, c), x.feed(a, b, c));
        }
        if (below(20) == 0) {
            long a = random.nextLong();
            due("feed(" + a + ")", y.feed(a, 0, a), x.feed(a, 0, a));
        }
        if (isStreet) {
            due("street of " + fed, y.street(), x.street());
        } else {
            due("day of " + fed, y.day(), x.day());
        }
        due("count(11)", y.count(11), x.count(11));
    }

    private String spoiled(String text) {
        String[] tokens = text.split(" ");
        if (tokens.length == 0) {
            return text;
        }
        int at = below(tokens.length);
        String spoil = SPOILS[below(SPOILS.length)];
        switch (below(4)) {
            case 0 -> tokens[at] = spoil;
            case 1 -> tokens[at] = tokens[at] + " " + spoil;
            case 2 -> tokens[at] = "";
            default -> tokens[at] = tokens[at] + tokens[below(tokens.length)];
        }
        String spoiled = String.join(" ", tokens);
        return below(5) == 0 ? spoiled.substring(0, below(spoiled.length() + 1)) : spoiled;
    }

    private String street() {
        for (int i = names.length - 1; i > 0; i--) {
            int j = below(i + 1);
            String name = names[i];
            names[i] = names[j];
            names[j] = name;
        }
        panes = Math.min(6, below(8));
        people = Math.min(5, below(7));
        deeds = Math.min(5, below(7));
        StringBuilder text = new StringBuilder();
        boolean isLightFirst = below(2) == 0;
        if (isLightFirst) {
            text.append(light());
        }
        for (int i = 0; i < panes; i++) {
            String kind = new String[] {"plain", "frosted", "thick", "mirror"}[below(4)];
            text.append("pane ").append(names[i]).append(' ').append(kind).append(" keeps ").append(1 + below(6)).append(" sees ");
            int cells = 1 + below(1023);
            for (int cell = 0; cell < 10; cell++) {
                if ((cells >> cell & 1) == 1 && (below(2) == 0 || cells >> cell == 1)) {
                    text.append(cell).append(' ');
                }
            }
            text.append("; ");
        }
        for (int i = 0; i < people; i++) {
            text.append("person ").append(names[6 + i]).append(" at ").append(below(10)).append(" ; ");
        }
        for (int i = 0; i < deeds; i++) {
            text.append("deed ").append(names[11 + i]).append(" harm ").append(below(3) == 0 ? below(10) : below(100)).append(" ; ");
        }
        if (!isLightFirst && below(2) == 0) {
            text.append(light());
        }
        if (below(3) > 0) {
            text.append("fades ").append(law(0, 0)).append(" ; ");
        }
        return below(8) == 0 ? text.toString().replace(" ;", "\n;").replace("; ", ";") : text.toString();
    }

    private String light() {
        StringBuilder text = new StringBuilder("light ");
        int hours = 1 + below(12);
        for (int i = 0; i < hours; i++) {
            text.append(below(2)).append(' ');
        }
        return text.append("; ").toString();
    }

    /** Levels 0 to 4 as in the document: E, TEST, SUM, PRODUCT, PART. */
    private String law(int level, int depth) {
        if (level == 4) {
            int choice = below(depth < 4 || below(12) == 0 ? 12 : 9);
            if (choice < 6) {
                return new String[] {"age", "bad", "lit", "newer", "age", "age"}[choice];
            }
            if (choice < 9) {
                return "" + (below(9) == 0 ? below(10000) : below(12));
            }
            return choice < 10 ? "not " + law(4, depth + 1) : "( " + law(0, depth + 1) + " )";
        }
        String[] joins = new String[][] {{"and", "or"}, {"<", "="}, {"+", "-"}, {"*", "*"}}[level];
        StringBuilder text = new StringBuilder(law(level + 1, depth));
        int more = level == 1 ? below(4) > 0 && depth < 3 ? 1 : 0 : below(4) == 0 ? 1 + below(2) : 0;
        for (int i = 0; i < more && text.length() < 150; i++) {
            text.append(' ').append(joins[below(2)]).append(' ').append(law(level + 1, depth));
        }
        return text.toString();
    }

    private String day() {
        StringBuilder text = new StringBuilder();
        int lines = below(6) == 0 ? 38 + below(5) : below(16);
        int cell = below(10);
        for (int i = 0; i < lines; i++) {
            String pane = names[below(Math.max(1, panes))];
            String person = names[6 + below(Math.max(1, people))];
            String deed = names[11 + below(Math.max(1, deeds))];
            cell = Math.max(0, Math.min(9, cell + below(3) - 1));
            switch (below(10)) {
                case 0, 1, 2 -> text.append("walk ").append(person).append(' ').append(cell);
                case 3, 4, 5 -> text.append("does ").append(person).append(' ').append(deed);
                case 6 -> text.append("wash ").append(pane);
                case 7 -> text.append("curtain ").append(pane);
                case 8 -> text.append(below(3) == 0 ? "stone " + pane : "hour");
                default -> text.append("hour");
            }
            text.append(" ; ");
        }
        return text.toString();
    }

    /** A number below m, or at times one that is none of these. */
    private int some(int m) {
        int choice = below(40);
        if (choice == 0) {
            return random.nextInt();
        }
        return choice < 4 ? below(m + 5) - 2 : below(Math.max(1, m));
    }

    private void act() {
        int pane = some(panes);
        int person = some(people);
        int deed = some(deeds);
        switch (below(40)) {
            case 0, 1, 2, 3, 4, 5, 6, 7, 8 -> {
                int cell = below(6) == 0 ? some(10) : y.person(person) + (below(2) == 0 ? 1 : -1);
                due("walk(" + person + ", " + cell + ")", bit(y.walk(person, cell)), bit(x.walk(person, cell)));
            }
            case 9, 10, 11, 12, 13, 14, 15, 16, 17, 18, 19, 20, 21, 22 ->
                due("does(" + person + ", " + deed + ")", y.does(person, deed), x.does(person, deed));
            case 23, 24, 25 -> due("wash(" + pane + ")", y.wash(pane), x.wash(pane));
            case 26, 27, 28 -> due("curtain(" + pane + ")", bit(y.curtain(pane)), bit(x.curtain(pane)));
            case 29 -> {
                if (below(4) == 0) {
                    due("stone(" + pane + ")", bit(y.stone(pane)), bit(x.stone(pane)));
                }
            }
            case 30, 31, 32, 33 -> due("hour()", y.hour(), x.hour());
            case 34, 35, 36 -> {
                int times = below(4) == 0 ? 18 : 1;
                for (int i = 0; i < times; i++) {
                    due("undo()", bit(y.undo()), bit(x.undo()));
                }
            }
            case 37, 38 -> {
                boolean isSeen = below(2) == 0;
                due("say(" + pane + ", " + isSeen + ")", bit(y.say(pane, isSeen)), bit(x.say(pane, isSeen)));
            }
            default -> {
                int notch = some(4);
                boolean back = below(2) == 0;
                due("notch(" + notch + ", " + back + ")", bit(y.notch(notch, back)), bit(x.notch(notch, back)));
            }
        }
    }

    private void ask() {
        int pane = some(panes);
        int person = some(people);
        int deed = some(deeds);
        int what = some(3);
        int n = some(10);
        int set = below(2) == 0 ? 1 << below(10) : some(1024);
        switch (below(32)) {
            case 0 -> due("pane(" + pane + ", " + n + ")", y.pane(pane, n), x.pane(pane, n));
            case 1, 2, 3 -> {
                int i = some(6);
                int of = some(4);
                due("shown(" + pane + ", " + i + ", " + of + ")", y.shown(pane, i, of), x.shown(pane, i, of));
            }
            case 4 -> due("person(" + person + ")", y.person(person), x.person(person));
            case 5, 6 -> due("judged(" + what + ")", y.judged(what), x.judged(what));
            case 7 -> due("shame(" + person + ")", y.shame(person), x.shame(person));
            case 8 -> due("harm()", y.harm(), x.harm());
            case 9 -> due("hide(" + person + ", " + what + ")", y.hide(person, what), x.hide(person, what));
            case 10, 11 -> {
                int some = some(1 << deeds);
                due("proof(" + person + ", " + some + ")", y.proof(person, some), x.proof(person, some));
            }
            case 12 -> due("washes(" + person + ", " + deed + ")", y.washes(person, deed), x.washes(person, deed));
            case 13 -> due("dark(" + set + ")", y.dark(set), x.dark(set));
            case 14 -> due("where()", y.where(), x.where());
            case 15 -> due("ask()", y.ask(), x.ask());
            case 16 -> due("memory(" + n + ")", y.memory(n), x.memory(n));
            case 17 -> due("glass(" + n + ")", y.glass(n), x.glass(n));
            case 18 -> due("seen(" + person + ")", y.seen(person), x.seen(person));
            case 19 -> due("eyes()", y.eyes(), x.eyes());
            case 20 -> due("blind()", y.blind(), x.blind());
            case 21 -> due("young(" + n + ")", y.young(n), x.young(n));
            case 22 -> due("trail(" + person + ")", y.trail(person), x.trail(person));
            case 23 -> due("last(" + person + ")", y.last(person), x.last(person));
            case 24 -> due("worst()", y.worst(), x.worst());
            case 25 -> due("oldest()", y.oldest(), x.oldest());
            case 26 -> {
                int most = below(3) == 0 ? some(500) : below(120);
                due("cloak(" + person + ", " + most + ")", y.cloak(person, most), x.cloak(person, most));
            }
            case 27 -> {
                int other = some(panes);
                due("twin(" + pane + ", " + other + ")", y.twin(pane, other), x.twin(pane, other));
            }
            case 28 -> due("run(" + pane + ")", y.run(pane), x.run(pane));
            case 29 -> rents(some(10), some(10), some(10), some(6) - 1);
            case 30 -> {
                int seed = some(10000);
                int hours = below(10) == 0 ? some(100) : 1 + below(20);
                due("years(" + seed + ", " + hours + ", " + what + ")", y.years(seed, hours, what), x.years(seed, hours, what));
            }
            default -> {
                int of = some(12);
                due("count(" + of + ")", y.count(of), x.count(of));
            }
        }
    }

    private void rents(int high, int low, int alone, int what) {
        int want;
        int got;
        try {
            want = y.rests(high, low, alone, what);
        } catch (NoSuchElementException none) {
            want = -99;
        }
        try {
            got = x.rests(high, low, alone, what);
        } catch (NoSuchElementException none) {
            got = -99;
        }
        due("rests(" + high + ", " + low + ", " + alone + ", " + what + ")", want, got);
    }
}
