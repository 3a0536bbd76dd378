import java.util.ArrayDeque;
import java.util.ArrayList;
import java.util.Collections;
import java.util.Deque;
import java.util.HashMap;
import java.util.HashSet;
import java.util.List;
import java.util.Map;
import java.util.NoSuchElementException;
import java.util.Set;
import java.util.TreeMap;
import java.util.TreeSet;
import java.util.regex.Matcher;
import java.util.regex.Pattern;

/**
 * GlassStreet once more, from the document, with the whole library and without care for speed or room: sets are tried
 * out one by one, and what would be if something were done is answered by doing it to a copy.
 */
final class Model {
    private static final List<String> KINDS = List.of("plain", "frosted", "thick", "mirror");
    private static final Set<String> NO_NAMES = Set.of("pane", "keeps", "sees", "person", "at", "deed", "harm", "light",
        "fades", "walk", "does", "wash", "curtain", "stone", "hour", "plain", "frosted", "thick", "mirror", "not", "and", "or");

    /** What an E is, as a tree. */
    private interface Term {
        int of(Map<String, Integer> facts);
    }

    private record Token(String text, int place) {
        boolean isEnd() {
            return text.isEmpty();
        }

        boolean isWord() {
            return text.matches("[a-z]{1,8}");
        }

        boolean isNumber() {
            return text.matches("[0-9]{1,4}");
        }

        boolean isName() {
            return isWord() && !NO_NAMES.contains(text);
        }

        int number() {
            return Integer.parseInt(text);
        }
    }

    private static final class Fault extends Exception {
        private static final long serialVersionUID = 1L;
        final int kind;
        final int place;

        Fault(int kind, Token token) {
            this.kind = kind;
            this.place = token.place;
        }
    }

    private record Told(String name, int kind, int keeps, Set<Integer> sees) {
    }

    private record Line(String verb, int first, int second) {
    }

    private record Mark(int who, int deed, int cell, int age) {
        Mark older() {
            return new Mark(who, deed, cell, age + 1);
        }

        String face() {
            return who + "/" + deed + "/" + cell;
        }
    }

    private static final class Street {
        final List<Told> panes = new ArrayList<>();
        final List<String> people = new ArrayList<>();
        final List<Integer> homes = new ArrayList<>();
        final List<String> deeds = new ArrayList<>();
        final List<Integer> harms = new ArrayList<>();
        List<Integer> light = null;
        Term fades = null;

        boolean knows(String name) {
            return people.contains(name) || deeds.contains(name) || panes.stream().anyMatch(p -> p.name.equals(name));
        }
    }

    /** All that changes; changed only in a copy. */
    private static final class State {
        int hour = 0;
        final List<Integer> at = new ArrayList<>();
        final List<List<Mark>> marks = new ArrayList<>();
        final Set<Integer> drawn = new HashSet<>();
        final Set<Integer> gone = new HashSet<>();

        State(Street street) {
            at.addAll(street.homes);
            for (int i = 0; i < street.panes.size(); i++) {
                marks.add(new ArrayList<>());
            }
        }

        State(State other) {
            hour = other.hour;
            at.addAll(other.at);
            other.marks.forEach(list -> marks.add(new ArrayList<>(list)));
            drawn.addAll(other.drawn);
            gone.addAll(other.gone);
        }
    }

    private final StringBuilder tape = new StringBuilder();
    private Street street = new Street();
    private State now = new State(street);
    private List<Line> day = new ArrayList<>();
    private Map<Integer, Boolean> said = new TreeMap<>();
    private final Deque<State> past = new ArrayDeque<>();
    private final Map<Integer, State> notchStates = new HashMap<>();
    private final Map<Integer, Map<Integer, Boolean>> notchSaid = new HashMap<>();

    int feed(long a, long b, long c) {
        for (long value : new long[] {a, b, c}) {
            for (int i = 7; i >= 0; i--) {
                int sign = (int) (value >> 8 * i & 0xFF);
                if ((sign == 10 || sign > 31 && sign < 127) && tape.length() < 1000) {
                    tape.append((char) sign);
                }
            }
        }
        return tape.length();
    }

    private List<Token> tokens() {
        List<Token> found = new ArrayList<>();
        Matcher matcher = Pattern.compile("[a-z]+|[0-9]+|[^ \n]").matcher(tape);
        while (matcher.find()) {
            found.add(new Token(matcher.group(), matcher.start()));
        }
        found.add(new Token("", tape.length()));
        tape.setLength(0);
        return found;
    }

    int street() {
        Deque<Token> tokens = new ArrayDeque<>(tokens());
        try {
            Street read = new Street();
            while (!tokens.peek().isEnd()) {
                readLine(tokens, read);
                need(tokens, ";");
            }
            street = read;
        } catch (Fault fault) {
            return fault.kind + 16 * fault.place;
        }
        now = new State(street);
        day = new ArrayList<>();
        said = new TreeMap<>();
        past.clear();
        notchStates.clear();
        notchSaid.clear();
        return 0;
    }

    private static void need(Deque<Token> tokens, String text) throws Fault {
        Token token = tokens.peek();
        if (!token.text.equals(text)) {
            throw new Fault(1, token);
        }
        tokens.poll();
    }

    private static int number(Deque<Token> tokens, int least, int most) throws Fault {
        Token token = tokens.peek();
        if (!token.isNumber()) {
            throw new Fault(1, token);
        }
        if (token.number() < least || token.number() > most) {
            throw new Fault(4, token);
        }
        return tokens.poll().number();
    }

    private static String newName(Deque<Token> tokens, Street read) throws Fault {
        Token token = tokens.peek();
        if (!token.isName()) {
            throw new Fault(1, token);
        }
        if (read.knows(token.text)) {
            throw new Fault(3, token);
        }
        return tokens.poll().text;
    }

    private static void readLine(Deque<Token> tokens, Street read) throws Fault {
        Token first = tokens.peek();
        switch (first.text) {
            case "pane" -> {
                if (read.panes.size() == 6) {
                    throw new Fault(5, first);
                }
                tokens.poll();
                readPane(tokens, read);
            }
            case "person" -> {
                if (read.people.size() == 5) {
                    throw new Fault(5, first);
                }
                tokens.poll();
                String name = newName(tokens, read);
                need(tokens, "at");
                read.homes.add(number(tokens, 0, 9));
                read.people.add(name);
            }
            case "deed" -> {
                if (read.deeds.size() == 5) {
                    throw new Fault(5, first);
                }
                tokens.poll();
                String name = newName(tokens, read);
                need(tokens, "harm");
                read.harms.add(number(tokens, 0, 99));
                read.deeds.add(name);
            }
            case "light" -> {
                if (read.light != null) {
                    throw new Fault(3, first);
                }
                tokens.poll();
                read.light = new ArrayList<>();
                do {
                    Token token = tokens.peek();
                    int lit = number(tokens, 0, 1);
                    if (read.light.size() == 12) {
                        throw new Fault(5, token);
                    }
                    read.light.add(lit);
                } while (tokens.peek().isNumber());
            }
            case "fades" -> {
                if (read.fades != null) {
                    throw new Fault(3, first);
                }
                tokens.poll();
                read.fades = readAll(tokens, 0);
            }
            default -> throw new Fault(1, first);
        }
    }

    private static void readPane(Deque<Token> tokens, Street read) throws Fault {
        String name = newName(tokens, read);
        int kind = KINDS.indexOf(tokens.peek().text);
        if (kind < 0) {
            throw new Fault(1, tokens.peek());
        }
        tokens.poll();
        need(tokens, "keeps");
        int keeps = number(tokens, 1, 6);
        need(tokens, "sees");
        Set<Integer> sees = new TreeSet<>();
        do {
            Token token = tokens.peek();
            if (!sees.add(number(tokens, 0, 9))) {
                throw new Fault(3, token);
            }
        } while (tokens.peek().isNumber());
        read.panes.add(new Told(name, kind, keeps, sees));
    }

    private static int truth(boolean is) {
        return is ? 1 : 0;
    }

    private static Term readAll(Deque<Token> tokens, int within) throws Fault {
        Term left = readTest(tokens, within);
        while (tokens.peek().text.equals("and") || tokens.peek().text.equals("or")) {
            boolean isAnd = tokens.poll().text.equals("and");
            Term a = left;
            Term b = readTest(tokens, within);
            left = isAnd ? f -> truth(a.of(f) != 0 & b.of(f) != 0) : f -> truth(a.of(f) != 0 | b.of(f) != 0);
        }
        return left;
    }

    private static Term readTest(Deque<Token> tokens, int within) throws Fault {
        Term a = readSum(tokens, within);
        if (tokens.peek().text.equals("<")) {
            tokens.poll();
            Term b = readSum(tokens, within);
            return f -> truth(a.of(f) < b.of(f));
        }
        if (tokens.peek().text.equals("=")) {
            tokens.poll();
            Term b = readSum(tokens, within);
            return f -> truth(a.of(f) == b.of(f));
        }
        return a;
    }

    private static Term readSum(Deque<Token> tokens, int within) throws Fault {
        Term left = readProduct(tokens, within);
        while (tokens.peek().text.equals("+") || tokens.peek().text.equals("-")) {
            int sign = tokens.poll().text.equals("+") ? 1 : -1;
            Term a = left;
            Term b = readProduct(tokens, within);
            left = f -> a.of(f) + sign * b.of(f);
        }
        return left;
    }

    private static Term readProduct(Deque<Token> tokens, int within) throws Fault {
        Term left = readPart(tokens, within);
        while (tokens.peek().text.equals("*")) {
            tokens.poll();
            Term a = left;
            Term b = readPart(tokens, within);
            left = f -> a.of(f) * b.of(f);
        }
        return left;
    }

    private static Term readPart(Deque<Token> tokens, int within) throws Fault {
        Token token = tokens.peek();
        boolean isFact = List.of("age", "bad", "lit", "newer").contains(token.text);
        if (!isFact && !token.isNumber() && !token.text.equals("not") && !token.text.equals("(")) {
            throw new Fault(1, token);
        }
        if (within == 5) {
            throw new Fault(5, token);
        }
        tokens.poll();
        if (isFact) {
            return f -> f.get(token.text);
        }
        if (token.isNumber()) {
            return f -> token.number();
        }
        if (token.text.equals("not")) {
            Term part = readPart(tokens, within + 1);
            return f -> truth(part.of(f) == 0);
        }
        Term all = readAll(tokens, within + 1);
        need(tokens, ")");
        return all;
    }

    int day() {
        Deque<Token> tokens = new ArrayDeque<>(tokens());
        List<Line> read = new ArrayList<>();
        try {
            while (!tokens.peek().isEnd()) {
                Token verb = tokens.peek();
                if (!List.of("walk", "does", "wash", "curtain", "stone", "hour").contains(verb.text)) {
                    throw new Fault(1, verb);
                }
                if (read.size() == 40) {
                    throw new Fault(5, verb);
                }
                tokens.poll();
                List<String> panes = street.panes.stream().map(Told::name).toList();
                int first = verb.text.equals("hour") ? 0
                    : known(tokens, verb.text.equals("walk") || verb.text.equals("does") ? street.people : panes);
                int second = verb.text.equals("walk") ? number(tokens, 0, 9)
                    : verb.text.equals("does") ? known(tokens, street.deeds) : 0;
                need(tokens, ";");
                read.add(new Line(verb.text, first, second));
            }
        } catch (Fault fault) {
            return fault.kind + 16 * fault.place;
        }
        day = read;
        return 0;
    }

    private static int known(Deque<Token> tokens, List<String> names) throws Fault {
        Token token = tokens.peek();
        if (!token.isName()) {
            throw new Fault(1, token);
        }
        if (!names.contains(token.text)) {
            throw new Fault(2, token);
        }
        return names.indexOf(tokens.poll().text);
    }

    // What is seen and shown.

    private boolean isPane(int pane) {
        return pane >= 0 && pane < street.panes.size();
    }

    private boolean isPerson(int person) {
        return person >= 0 && person < street.people.size();
    }

    private boolean isDeed(int deed) {
        return deed >= 0 && deed < street.deeds.size();
    }

    private int light(State state) {
        return street.light == null ? 1 : street.light.get(state.hour % street.light.size());
    }

    private boolean sees(State state, int pane, int cell) {
        Told told = street.panes.get(pane);
        if (state.gone.contains(pane) || state.drawn.contains(pane) || told.kind == 2 && light(state) == 0) {
            return false;
        }
        return told.sees.contains(cell) || told.kind == 3 && told.sees.contains(9 - cell);
    }

    private List<Integer> watchers(State state, int cell) {
        List<Integer> found = new ArrayList<>();
        for (int pane = 0; pane < street.panes.size(); pane++) {
            if (sees(state, pane, cell)) {
                found.add(pane);
            }
        }
        return found;
    }

    private static int bits(Iterable<Integer> members) {
        int all = 0;
        for (int member : members) {
            all |= 1 << member;
        }
        return all;
    }

    private List<Mark> shown(State state, int pane) {
        boolean isShown = state.gone.contains(pane) || !state.drawn.contains(pane);
        return isShown ? state.marks.get(pane) : List.of();
    }

    private boolean tellsWho(State state, int pane) {
        return street.panes.get(pane).kind != 1 || state.gone.contains(pane);
    }

    private List<Mark> shownOf(State state, int pane, int person) {
        return tellsWho(state, pane) ? shown(state, pane).stream().filter(m -> m.who == person).toList() : List.of();
    }

    private int sum(Set<Integer> deeds) {
        return deeds.stream().mapToInt(d -> street.harms.get(d)).sum();
    }

    private int shame(State state, int person) {
        Set<Integer> deeds = new TreeSet<>();
        for (int pane = 0; pane < street.panes.size(); pane++) {
            shownOf(state, pane, person).forEach(m -> deeds.add(m.deed));
        }
        return sum(deeds);
    }

    private int harm(State state) {
        Set<Integer> deeds = new TreeSet<>();
        for (int pane = 0; pane < street.panes.size(); pane++) {
            shown(state, pane).forEach(m -> deeds.add(m.deed));
        }
        return sum(deeds);
    }

    // What is done, each to the state that is given; false, or null, if it can't be.

    private boolean walks(State state, int person, int cell) {
        int from = state.at.get(person);
        if (cell < 0 || cell > 9 || cell != from + 1 && cell != from - 1) {
            return false;
        }
        state.at.set(person, cell);
        return true;
    }

    private List<Integer> acts(State state, int person, int deed) {
        List<Integer> watchers = watchers(state, state.at.get(person));
        for (int pane : watchers) {
            List<Mark> marks = state.marks.get(pane);
            if (marks.size() == street.panes.get(pane).keeps) {
                marks.remove(0);
            }
            marks.add(new Mark(person, deed, state.at.get(person), 0));
        }
        return watchers;
    }

    private boolean washes(State state, int pane) {
        List<Mark> marks = state.marks.get(pane);
        if (state.gone.contains(pane) || marks.isEmpty()) {
            return false;
        }
        marks.remove(marks.size() - 1);
        return true;
    }

    private boolean draws(State state, int pane) {
        if (state.gone.contains(pane)) {
            return false;
        }
        if (!state.drawn.remove(pane)) {
            state.drawn.add(pane);
        }
        return true;
    }

    private int passes(State state) {
        int faded = 0;
        for (int pane = 0; pane < street.panes.size(); pane++) {
            if (state.gone.contains(pane)) {
                continue;
            }
            List<Mark> marks = state.marks.get(pane);
            marks.replaceAll(Mark::older);
            List<Mark> left = new ArrayList<>();
            for (int i = 0; i < marks.size(); i++) {
                Mark mark = marks.get(i);
                Map<String, Integer> facts = Map.of("age", mark.age, "bad", street.harms.get(mark.deed), "lit", light(state),
                    "newer", marks.size() - 1 - i);
                if (street.fades == null ? 8 < mark.age : street.fades.of(facts) != 0) {
                    faded++;
                } else {
                    left.add(mark);
                }
            }
            marks.clear();
            marks.addAll(left);
        }
        state.hour++;
        return faded;
    }

    private void keep(State before) {
        past.addLast(before);
        if (past.size() > 16) {
            past.removeFirst();
        }
    }

    // The face.

    int pane(int pane, int what) {
        if (!isPane(pane)) {
            return -2;
        }
        return switch (what) {
            case 0 -> street.panes.get(pane).kind;
            case 1 -> street.panes.get(pane).keeps;
            case 2 -> now.marks.get(pane).size();
            case 3 -> truth(now.drawn.contains(pane));
            case 4 -> truth(now.gone.contains(pane));
            case 5 -> bits(cellsSeen(now, pane));
            default -> -2;
        };
    }

    private Set<Integer> cellsSeen(State state, int pane) {
        Set<Integer> cells = new TreeSet<>();
        for (int cell = 0; cell < 10; cell++) {
            if (sees(state, pane, cell)) {
                cells.add(cell);
            }
        }
        return cells;
    }

    int shown(int pane, int i, int what) {
        if (!isPane(pane) || i < 0 || i >= shown(now, pane).size()) {
            return -2;
        }
        Mark mark = shown(now, pane).get(i);
        return switch (what) {
            case 0 -> tellsWho(now, pane) ? mark.who : -1;
            case 1 -> mark.deed;
            case 2 -> mark.cell;
            case 3 -> mark.age;
            default -> -2;
        };
    }

    int person(int person) {
        return isPerson(person) ? now.at.get(person) : -1;
    }

    boolean walk(int person, int cell) {
        State before = new State(now);
        if (!isPerson(person) || !walks(now, person, cell)) {
            return false;
        }
        keep(before);
        return true;
    }

    int does(int person, int deed) {
        if (!isPerson(person) || !isDeed(deed)) {
            return -1;
        }
        keep(new State(now));
        return bits(acts(now, person, deed));
    }

    int wash(int pane) {
        State before = new State(now);
        if (!isPane(pane) || !washes(now, pane)) {
            return -1;
        }
        keep(before);
        return now.marks.get(pane).size();
    }

    boolean curtain(int pane) {
        State before = new State(now);
        if (!isPane(pane) || !draws(now, pane)) {
            return false;
        }
        keep(before);
        return true;
    }

    boolean stone(int pane) {
        State before = new State(now);
        if (!isPane(pane) || !now.gone.add(pane)) {
            return false;
        }
        keep(before);
        return true;
    }

    int hour() {
        keep(new State(now));
        return passes(now);
    }

    boolean undo() {
        if (past.isEmpty()) {
            return false;
        }
        now = past.removeLast();
        return true;
    }

    int judged(int what) {
        State state = new State(street);
        List<Integer> refused = new ArrayList<>();
        List<Integer> unseen = new ArrayList<>();
        for (int i = 0; i < day.size(); i++) {
            Line line = day.get(i);
            boolean can = switch (line.verb) {
                case "walk" -> walks(state, line.first, line.second);
                case "wash" -> washes(state, line.first);
                case "curtain" -> draws(state, line.first);
                case "stone" -> state.gone.add(line.first);
                case "hour" -> passes(state) >= 0;
                default -> {
                    if (acts(state, line.first, line.second).isEmpty()) {
                        unseen.add(i);
                    }
                    yield true;
                }
            };
            if (!can) {
                refused.add(i);
            }
        }
        return switch (what) {
            case 0 -> refused.isEmpty() ? -1 : refused.get(0);
            case 1 -> unseen.isEmpty() ? -1 : unseen.get(0);
            case 2 -> harm(state);
            default -> -2;
        };
    }

    int shame(int person) {
        return isPerson(person) ? shame(now, person) : -1;
    }

    int harm() {
        return harm(now);
    }

    int hide(int person, int what) {
        if (!isPerson(person) || what != 0 && what != 1) {
            return -1;
        }
        for (int steps = 0; steps < 10; steps++) {
            for (int cell : new int[] {now.at.get(person) - steps, now.at.get(person) + steps}) {
                if (cell >= 0 && cell < 10 && watchers(now, cell).isEmpty()) {
                    return what == 0 ? steps : cell;
                }
            }
        }
        return -1;
    }

    /** The sets of panes, fewer ahead of more, the lesser bits ahead of the greater. */
    private List<Integer> sets() {
        List<Integer> sets = new ArrayList<>();
        for (int set = 0; set < 1 << street.panes.size(); set++) {
            sets.add(set);
        }
        sets.sort((a, b) -> Integer.bitCount(a) != Integer.bitCount(b)
            ? Integer.compare(Integer.bitCount(a), Integer.bitCount(b)) : Integer.compare(a, b));
        return sets;
    }

    int proof(int person, int deeds) {
        if (!isPerson(person) || deeds < 0 || deeds >= 1 << street.deeds.size()) {
            return -1;
        }
        for (int set : sets()) {
            int proven = 0;
            for (int pane = 0; pane < street.panes.size(); pane++) {
                if ((set >> pane) % 2 == 1) {
                    proven |= bits(shownOf(now, pane, person).stream().map(Mark::deed).toList());
                }
            }
            if ((proven & deeds) == deeds) {
                return set;
            }
        }
        return -1;
    }

    int washes(int person, int deed) {
        if (!isPerson(person) || !isDeed(deed)) {
            return -1;
        }
        State state = new State(now);
        int washings = 0;
        for (int pane = 0; pane < street.panes.size(); pane++) {
            while (!state.gone.contains(pane)
                && state.marks.get(pane).stream().anyMatch(m -> m.who == person && m.deed == deed)) {
                washes(state, pane);
                washings++;
            }
        }
        return washings;
    }

    int dark(int cells) {
        if (cells < 1 || cells > 1023) {
            return -1;
        }
        for (int set : sets()) {
            State state = new State(now);
            boolean isFit = true;
            for (int pane = 0; pane < street.panes.size(); pane++) {
                if ((set >> pane) % 2 == 1) {
                    isFit &= !cellsSeen(now, pane).isEmpty();
                    state.drawn.add(pane);
                }
            }
            for (int cell = 0; cell < 10 && isFit; cell++) {
                if ((cells >> cell) % 2 == 1 && watchers(state, cell).isEmpty()) {
                    return set;
                }
            }
        }
        return -1;
    }

    boolean say(int pane, boolean isSeen) {
        if (!isPane(pane)) {
            return false;
        }
        said.put(pane, isSeen);
        return true;
    }

    private Set<Integer> possible() {
        Set<Integer> cells = new TreeSet<>();
        for (int cell = 0; cell < 10; cell++) {
            int c = cell;
            if (said.entrySet().stream().allMatch(e -> sees(now, e.getKey(), c) == e.getValue())) {
                cells.add(cell);
            }
        }
        return cells;
    }

    int where() {
        return bits(possible());
    }

    int ask() {
        Set<Integer> cells = possible();
        int best = -1;
        long least = cells.size();
        for (int pane = street.panes.size() - 1; pane >= 0; pane--) {
            int p = pane;
            long with = cells.stream().filter(c -> sees(now, p, c)).count();
            long greater = Math.max(with, cells.size() - with);
            if (!said.containsKey(pane) && greater < cells.size() && greater <= least) {
                best = pane;
                least = greater;
            }
        }
        return best;
    }

    int memory(int keeps) {
        if (keeps < 1 || keeps > 6) {
            return -1;
        }
        State state = new State(now);
        for (List<Mark> marks : state.marks) {
            while (marks.size() > keeps) {
                marks.remove(0);
            }
        }
        return harm(state);
    }

    int glass(int cells) {
        if (cells < 1 || cells > 10) {
            return -1;
        }
        List<Long> people = new ArrayList<>();
        for (int first = 0; first <= 10 - cells; first++) {
            int from = first;
            people.add(now.at.stream().filter(c -> c >= from && c <= from + cells - 1).count());
        }
        return people.indexOf(Collections.max(people));
    }

    int seen(int person) {
        return isPerson(person) ? bits(watchers(now, now.at.get(person))) : -1;
    }

    int eyes() {
        List<Integer> eyes = new ArrayList<>();
        for (int cell = 0; cell < 10; cell++) {
            eyes.add(watchers(now, cell).size());
        }
        return eyes.indexOf(Collections.max(eyes));
    }

    int blind() {
        Set<Integer> cells = new TreeSet<>();
        for (int cell = 0; cell < 10; cell++) {
            if (watchers(now, cell).isEmpty()) {
                cells.add(cell);
            }
        }
        return bits(cells);
    }

    int young(int age) {
        return (int) now.marks.stream().flatMap(List::stream).filter(m -> m.age <= age).count();
    }

    int trail(int person) {
        if (!isPerson(person)) {
            return -1;
        }
        Set<Integer> cells = new TreeSet<>();
        for (int pane = 0; pane < street.panes.size(); pane++) {
            shownOf(now, pane, person).forEach(m -> cells.add(m.cell));
        }
        return bits(cells);
    }

    int last(int person) {
        if (!isPerson(person)) {
            return -1;
        }
        Mark best = null;
        for (int pane = street.panes.size() - 1; pane >= 0; pane--) {
            for (Mark mark : shownOf(now, pane, person)) {
                if (best == null || mark.age <= best.age) {
                    best = mark;
                }
            }
        }
        return best == null ? -1 : best.cell;
    }

    int worst() {
        int worst = -1;
        for (int person = street.people.size() - 1; person >= 0; person--) {
            if (shame(now, person) > 0 && (worst < 0 || shame(now, person) >= shame(now, worst))) {
                worst = person;
            }
        }
        return worst;
    }

    int oldest() {
        int greatest = now.marks.stream().flatMap(List::stream).mapToInt(Mark::age).max().orElse(-1);
        for (int pane = 0; pane < street.panes.size(); pane++) {
            if (now.marks.get(pane).stream().anyMatch(m -> m.age == greatest)) {
                return pane;
            }
        }
        return -1;
    }

    int cloak(int person, int most) {
        if (!isPerson(person) || most < 0 || most > 495) {
            return -1;
        }
        for (int set : sets()) {
            State state = new State(now);
            boolean isFit = true;
            for (int pane = 0; pane < street.panes.size(); pane++) {
                if ((set >> pane) % 2 == 1) {
                    isFit &= !now.gone.contains(pane) && state.drawn.add(pane);
                }
            }
            if (isFit && shame(state, person) <= most) {
                return set;
            }
        }
        return -1;
    }

    int twin(int pane, int other) {
        if (!isPane(pane) || !isPane(other) || pane == other) {
            return -1;
        }
        List<String> left = new ArrayList<>(now.marks.get(other).stream().map(Mark::face).toList());
        int both = 0;
        for (Mark mark : now.marks.get(pane)) {
            both += truth(left.remove(mark.face()));
        }
        return both;
    }

    int run(int pane) {
        if (!isPane(pane)) {
            return -1;
        }
        State state = new State(now);
        int hours = 0;
        while (!state.marks.get(pane).isEmpty()) {
            if (hours == 99) {
                return -1;
            }
            passes(state);
            hours++;
        }
        return hours;
    }

    int rests(int high, int low, int alone, int what) {
        for (int amount : new int[] {high, low, alone}) {
            if (amount < 0 || amount > 9) {
                throw new NoSuchElementException();
            }
        }
        int[][] gets = {{low, alone}, {0, high}};
        List<Integer> found = new ArrayList<>();
        for (int first = 0; first < 2; first++) {
            for (int other = 0; other < 2; other++) {
                if (gets[first][other] >= gets[1 - first][other] && gets[other][first] >= gets[1 - other][first]) {
                    found.add(2 * first + other);
                }
            }
        }
        if (what == -1) {
            return found.size();
        }
        if (what < 0 || what >= found.size()) {
            throw new NoSuchElementException();
        }
        return found.get(what);
    }

    private long g = 0;

    private int draw(int m) {
        g = Math.floorMod(g * 1103515245 + 12345, 1L << 31);
        return (int) ((g >> 16) % m);
    }

    int years(int seed, int hours, int what) {
        if (seed < 0 || seed > 9999 || hours < 1 || hours > 99 || what < 0 || what > 2) {
            return -1;
        }
        State state = new State(now);
        int[] answers = new int[3];
        g = seed;
        for (int i = 0; i < hours; i++) {
            for (int person = 0; person < street.people.size(); person++) {
                int choice = draw(3);
                if (choice == 0) {
                    walks(state, person, state.at.get(person) - 1);
                } else if (choice == 1) {
                    walks(state, person, state.at.get(person) + 1);
                } else if (!street.deeds.isEmpty()) {
                    answers[0]++;
                    answers[1] += truth(acts(state, person, draw(street.deeds.size())).isEmpty());
                }
            }
            if (!street.panes.isEmpty() && draw(9) == 0) {
                washes(state, draw(street.panes.size()));
            }
            passes(state);
        }
        answers[2] = harm(state);
        return answers[what];
    }

    boolean notch(int notch, boolean back) {
        if (notch < 0 || notch > 3) {
            return false;
        }
        if (!back) {
            notchStates.put(notch, new State(now));
            notchSaid.put(notch, new TreeMap<>(said));
            return true;
        }
        if (!notchStates.containsKey(notch)) {
            return false;
        }
        now = new State(notchStates.get(notch));
        said = new TreeMap<>(notchSaid.get(notch));
        past.clear();
        return true;
    }

    int count(int what) {
        int[] answers = {street.panes.size(), street.people.size(), street.deeds.size(), now.hour, light(now),
            now.marks.stream().mapToInt(List::size).sum(), bits(now.drawn), bits(now.gone), day.size(), said.size(),
            past.size(), tape.length()};
        return what >= 0 && what < answers.length ? answers[what] : -1;
    }
}
