import java.util.NoSuchElementException;

/** A street whose window panes see, remember and show what was done before them. */
public final class GlassStreet {
    public static final int NONE = -1;

    /** What pane and shown answer where NONE has a meaning of its own. */
    private static final int OTHER = -2;
    private static final int CELLS = 10;
    private static final int ALL_CELLS = 1023;
    private static final int PANES = 6;
    private static final int MOST_MARKS = 6;
    private static final int PEOPLE = 5;
    private static final int DEEDS = 5;
    private static final int LIGHTS = 12;
    private static final int LINES = 40;
    private static final int NOTCHES = 4;
    private static final int MOST_HARM = 99;
    private static final int MOST_SHAME = 495;
    private static final int MOST_HOURS = 99;
    private static final int MOST_SEED = 9999;
    private static final int MOST_RENT = 9;

    private final Tape tape = new Tape();
    private final World now = new World();
    private final World trial = new World();
    private final History history = new History();
    private final World[] notches = new World[NOTCHES];
    private final Draws draws = new Draws();
    private int laidNotches = 0;
    private Street told = new Street();
    private Street spareStreet = new Street();
    private Day toldDay = new Day();
    private Day spareDay = new Day();

    public GlassStreet() {
        for (int i = 0; i < NOTCHES; i++) {
            notches[i] = new World();
        }
    }

    public int feed(long a, long b, long c) {
        tape.append(a);
        tape.append(b);
        tape.append(c);
        return tape.length;
    }

    public int street() {
        boolean isRead = StreetReader.reads(tape, spareStreet);
        tape.clear();
        if (!isRead) {
            return tape.fault;
        }
        Street elder = told;
        told = spareStreet;
        spareStreet = elder;
        now.begin(told);
        now.forgetSaid();
        history.clear();
        toldDay.clear();
        laidNotches = 0;
        return 0;
    }

    public int day() {
        boolean isRead = DayReader.reads(tape, told, spareDay);
        tape.clear();
        if (!isRead) {
            return tape.fault;
        }
        Day elder = toldDay;
        toldDay = spareDay;
        spareDay = elder;
        return 0;
    }

    public int pane(int pane, int what) {
        if (!told.hasPane(pane)) {
            return OTHER;
        }
        switch (what) {
            case 0: return told.kinds[pane];
            case 1: return told.keeps[pane];
            case 2: return now.held[pane];
            case 3: return now.isDrawn(pane) ? 1 : 0;
            case 4: return now.isBroken(pane) ? 1 : 0;
            case 5: return now.sightOf(told, pane);
            default: return OTHER;
        }
    }

    public int shown(int pane, int i, int what) {
        if (!told.hasPane(pane) || !now.isOpenToAll(pane) || i < 0 || i >= now.held[pane]) {
            return OTHER;
        }
        int mark = now.markAt(pane, i);
        switch (what) {
            case 0: return now.tellsWho(told, pane) ? World.whoOf(mark) : NONE;
            case 1: return World.deedOf(mark);
            case 2: return World.cellOf(mark);
            case 3: return World.ageOf(mark);
            default: return OTHER;
        }
    }

    public int person(int person) {
        return told.hasPerson(person) ? now.cells[person] : NONE;
    }

    public boolean walk(int person, int cell) {
        if (!told.hasPerson(person) || !now.canStep(person, cell)) {
            return false;
        }
        history.keep(now);
        return now.steps(person, cell);
    }

    public int does(int person, int deed) {
        if (!told.hasPerson(person) || !told.hasDeed(deed)) {
            return NONE;
        }
        history.keep(now);
        return now.act(told, person, deed);
    }

    public int wash(int pane) {
        if (!told.hasPane(pane) || !now.canRinse(pane)) {
            return NONE;
        }
        history.keep(now);
        now.rinses(pane);
        return now.held[pane];
    }

    public boolean curtain(int pane) {
        if (!told.hasPane(pane) || now.isBroken(pane)) {
            return false;
        }
        history.keep(now);
        return now.pulls(pane);
    }

    public boolean stone(int pane) {
        if (!told.hasPane(pane) || now.isBroken(pane)) {
            return false;
        }
        history.keep(now);
        return now.smashes(pane);
    }

    public int hour() {
        history.keep(now);
        return now.pass(told);
    }

    public boolean undo() {
        return history.takeBack(now);
    }

    public int judged(int what) {
        if (what < 0 || what > 2) {
            return OTHER;
        }
        toldDay.play(told, trial);
        if (what == 0) {
            return toldDay.firstRefused;
        }
        return what == 1 ? toldDay.firstUnseen : Evidence.harmShown(told, trial, MOST_MARKS);
    }

    public int shame(int person) {
        return told.hasPerson(person) ? Evidence.shameOf(told, now, person) : NONE;
    }

    public int harm() {
        return Evidence.harmShown(told, now, MOST_MARKS);
    }

    public int hide(int person, int what) {
        if (!told.hasPerson(person) || what < 0 || what > 1) {
            return NONE;
        }
        int from = now.cells[person];
        int cell = Sight.nearestUnseen(told, now, from);
        if (cell == NONE) {
            return NONE;
        }
        return what == 0 ? Math.abs(cell - from) : cell;
    }

    public int proof(int person, int deeds) {
        if (!told.hasPerson(person) || deeds < 0 || deeds >= 1 << told.deedCount) {
            return NONE;
        }
        return Evidence.fewestProving(told, now, person, deeds);
    }

    public int washes(int person, int deed) {
        if (!told.hasPerson(person) || !told.hasDeed(deed)) {
            return NONE;
        }
        return Evidence.rinsesNeeded(told, now, person, deed);
    }

    public int dark(int cells) {
        if (cells <= 0 || cells > ALL_CELLS) {
            return NONE;
        }
        return Sight.fewestWatching(told, now, cells);
    }

    public boolean say(int pane, boolean isSeen) {
        if (!told.hasPane(pane)) {
            return false;
        }
        now.hear(pane, isSeen);
        return true;
    }

    public int where() {
        return Sight.cellsAsSaid(told, now);
    }

    public int ask() {
        return Sight.bestToAsk(told, now);
    }

    public int memory(int keeps) {
        if (keeps < 1 || keeps > MOST_MARKS) {
            return NONE;
        }
        return Evidence.harmShown(told, now, keeps);
    }

    public int glass(int cells) {
        if (cells < 1 || cells > CELLS) {
            return NONE;
        }
        return Sight.mostPeopled(told, now, cells);
    }

    public int seen(int person) {
        return told.hasPerson(person) ? now.watchersOf(told, now.cells[person]) : NONE;
    }

    public int eyes() {
        return Sight.mostWatched(told, now);
    }

    public int blind() {
        return Sight.unseenCells(told, now);
    }

    public int young(int age) {
        return Evidence.marksUpTo(told, now, age);
    }

    public int trail(int person) {
        return told.hasPerson(person) ? Evidence.cellsShownOf(told, now, person) : NONE;
    }

    public int last(int person) {
        return told.hasPerson(person) ? Evidence.newestCellOf(told, now, person) : NONE;
    }

    public int worst() {
        return Evidence.mostShamed(told, now);
    }

    public int oldest() {
        return Evidence.paneOfGreatestAge(told, now);
    }

    public int cloak(int person, int most) {
        if (!told.hasPerson(person) || most < 0 || most > MOST_SHAME) {
            return NONE;
        }
        return Evidence.fewestCloaking(told, now, person, most);
    }

    public int twin(int pane, int other) {
        if (!told.hasPane(pane) || !told.hasPane(other) || pane == other) {
            return NONE;
        }
        return Evidence.alikeMarks(now, pane, other);
    }

    public int run(int pane) {
        if (!told.hasPane(pane)) {
            return NONE;
        }
        trial.copy(now);
        for (int passed = 0; passed <= MOST_HOURS; passed++) {
            if (trial.held[pane] == 0) {
                return passed;
            }
            trial.pass(told);
        }
        return NONE;
    }

    public int rests(int high, int low, int alone, int what) throws NoSuchElementException {
        if (!isRent(high) || !isRent(low) || !isRent(alone) || what < NONE) {
            throw new NoSuchElementException();
        }
        int found = 0;
        for (int both = 0; both < 4; both++) {
            if (isAtRest(high, low, alone, both)) {
                if (found == what) {
                    return both;
                }
                found++;
            }
        }
        if (what != NONE) {
            throw new NoSuchElementException();
        }
        return found;
    }

    public int years(int seed, int hours, int what) {
        if (seed < 0 || seed > MOST_SEED || hours < 1 || hours > MOST_HOURS || what < 0 || what > 2) {
            return NONE;
        }
        trial.copy(now);
        draws.play(told, trial, seed, hours);
        if (what == 0) {
            return draws.done;
        }
        return what == 1 ? draws.unseen : Evidence.harmShown(told, trial, MOST_MARKS);
    }

    public boolean notch(int notch, boolean back) {
        if (notch < 0 || notch >= NOTCHES) {
            return false;
        }
        World kept = notches[notch];
        if (!back) {
            kept.copy(now);
            kept.copySaid(now);
            laidNotches |= 1 << notch;
            return true;
        }
        if ((laidNotches >> notch & 1) == 0) {
            return false;
        }
        now.copy(kept);
        now.copySaid(kept);
        history.clear();
        return true;
    }

    public int count(int what) {
        switch (what) {
            case 0: return told.paneCount;
            case 1: return told.personCount;
            case 2: return told.deedCount;
            case 3: return now.time;
            case 4: return told.lightAt(now.time);
            case 5: return now.marksHeld(told);
            case 6: return now.drawn;
            case 7: return now.broken;
            case 8: return toldDay.size;
            case 9: return Integer.bitCount(now.saidOf);
            case 10: return history.size;
            case 11: return tape.length;
            default: return NONE;
        }
    }

    private static boolean isRent(int rent) {
        return rent >= 0 && rent <= MOST_RENT;
    }

    /** Whether neither of two opposite would get more by the other choice; both: 2 * the first's + the other's. */
    private static boolean isAtRest(int high, int low, int alone, int both) {
        int first = both >> 1;
        int other = both & 1;
        return rentOf(high, low, alone, first, other) >= rentOf(high, low, alone, 1 - first, other)
            && rentOf(high, low, alone, other, first) >= rentOf(high, low, alone, 1 - other, first);
    }

    private static int rentOf(int high, int low, int alone, int own, int opposite) {
        if (own == opposite) {
            return own == 1 ? high : low;
        }
        return own == 1 ? 0 : alone;
    }

    /** Of sets of panes (bits) with the fewest the least is wanted; NONE is worse than any. */
    private static boolean isBetterSet(int set, int best) {
        if (best == NONE) {
            return true;
        }
        int size = Integer.bitCount(set);
        int bestSize = Integer.bitCount(best);
        return size < bestSize || size == bestSize && set < best;
    }

    /** The signs that were fed, and the token at hand while they are read. */
    private static final class Tape {
        static final int MOST = 1000;

        static final int CANNOT_STAND = 1;
        static final int UNKNOWN_NAME = 2;
        static final int TOLD_ALREADY = 3;
        static final int WRONG_NUMBER = 4;
        static final int TOO_MANY = 5;

        /** The words that are no names, each with a blank behind; the constants below are their places in it. */
        static final String RESERVED =
            "pane person deed light fades walk does wash curtain stone hour keeps sees at harm plain frosted thick mirror not and or ";
        static final int PANE = 0;
        static final int PERSON = 1;
        static final int DEED = 2;
        static final int LIGHT = 3;
        static final int FADES = 4;
        static final int WALK = 5;
        static final int DOES = 6;
        static final int WASH = 7;
        static final int CURTAIN = 8;
        static final int STONE = 9;
        static final int HOUR = 10;
        static final int KEEPS = 11;
        static final int SEES = 12;
        static final int AT = 13;
        static final int HARM = 14;
        static final int PLAIN = 15;
        static final int MIRROR = 18;
        static final int NOT = 19;
        static final int AND = 20;
        static final int OR = 21;

        private static final int END = 0;
        private static final int NO_TOKEN = 1;
        private static final int WORD = 2;
        private static final int NUMBER = 3;
        private static final int SIGN = 4;
        private static final int LONGEST_WORD = 8;
        private static final int LONGEST_NUMBER = 4;
        private static final String SIGNS = "()<=+-*;";

        private final char[] signs = new char[MOST];
        private int length = 0;
        private int kind = END;
        private int place = 0;
        private int behind = 0;
        private int number = 0;
        /** Stands for the letters of a word, another one for each word. */
        private long name = 0;
        private int reserved = NONE;
        private int fault = 0;

        void append(long eight) {
            for (int shift = 56; shift >= 0; shift -= 8) {
                int sign = (int) (eight >>> shift) & 255;
                if (length < MOST && (sign == 10 || sign >= 32 && sign <= 126)) {
                    signs[length] = (char) sign;
                    length++;
                }
            }
        }

        void clear() {
            length = 0;
        }

        void rewind() {
            behind = 0;
            fault = 0;
            advance();
        }

        void advance() {
            int at = behind;
            while (at < length && (signs[at] == ' ' || signs[at] == '\n')) {
                at++;
            }
            place = at;
            reserved = NONE;
            if (at >= length) {
                kind = END;
                behind = length;
                return;
            }
            char sign = signs[at];
            if (sign >= 'a' && sign <= 'z') {
                scanWord();
                reserved = placeIn(RESERVED);
            } else if (sign >= '0' && sign <= '9') {
                scanNumber();
            } else {
                kind = SIGNS.indexOf(sign) >= 0 ? SIGN : NO_TOKEN;
                behind = at + 1;
            }
        }

        private void scanWord() {
            int at = place;
            name = 0;
            while (at < length && signs[at] >= 'a' && signs[at] <= 'z') {
                name = name * 27 + (signs[at] - 'a' + 1);
                at++;
            }
            behind = at;
            kind = at - place > LONGEST_WORD ? NO_TOKEN : WORD;
        }

        private void scanNumber() {
            int at = place;
            number = 0;
            while (at < length && signs[at] >= '0' && signs[at] <= '9') {
                number = number * 10 + (signs[at] - '0');
                at++;
            }
            behind = at;
            kind = at - place > LONGEST_NUMBER ? NO_TOKEN : NUMBER;
        }

        /** The place of the word at hand among words that have a blank behind each. */
        int placeIn(String words) {
            if (kind != WORD) {
                return NONE;
            }
            int found = 0;
            long other = 0;
            for (int i = 0; i < words.length(); i++) {
                char letter = words.charAt(i);
                if (letter != ' ') {
                    other = other * 27 + (letter - 'a' + 1);
                } else if (other == name) {
                    return found;
                } else {
                    found++;
                    other = 0;
                }
            }
            return NONE;
        }

        boolean isAtEnd() {
            return kind == END;
        }

        boolean isNumber() {
            return kind == NUMBER;
        }

        boolean isName() {
            return kind == WORD && reserved == NONE;
        }

        boolean isSign(char sign) {
            return kind == SIGN && signs[place] == sign;
        }

        /** Tells the token at hand wrong; always false, so that what reads can answer it. */
        boolean isWrong(int faultKind) {
            fault = faultKind + 16 * place;
            return false;
        }

        boolean takesWord(int word) {
            if (reserved != word) {
                return isWrong(CANNOT_STAND);
            }
            advance();
            return true;
        }

        boolean takesSign(char sign) {
            if (!isSign(sign)) {
                return isWrong(CANNOT_STAND);
            }
            advance();
            return true;
        }

        /** Looks at a number and leaves it at hand. */
        boolean hasNumber(int least, int most) {
            if (kind != NUMBER) {
                return isWrong(CANNOT_STAND);
            }
            return number >= least && number <= most || isWrong(WRONG_NUMBER);
        }
    }

    /** The law of what fades, as codes in the order in which they are reckoned: parts first, then what joins them. */
    private static final class Law {
        /** The facts in the order of their codes, which go down from AGE. */
        private static final String FACTS = "age bad lit newer ";
        private static final int AGE = -1;
        private static final int BAD = -2;
        private static final int LIT = -3;
        private static final int NEWER = -4;
        private static final int NOT = -5;
        private static final int AND = -6;
        private static final int OR = -7;
        private static final int LESS = -8;
        private static final int EQUAL = -9;
        private static final int PLUS = -10;
        private static final int MINUS = -11;
        private static final int TIMES = -12;

        /** What binds tighter has the higher level. */
        static final int CHOICES = 0;
        private static final int TESTS = 1;
        private static final int SUMS = 2;
        private static final int PRODUCTS = 3;
        private static final int PARTS = 4;
        private static final int NO_CODE = 0;
        private static final int DEEPEST = 5;
        private static final int UNTOLD_AGE = 8;
        /** Enough: a left side for each of the 4 levels above parts, within each of 5 depths, and a last part. */
        private static final int MOST_WAITING = 32;

        private final int[] codes = new int[Tape.MOST];
        private final int[] parts = new int[MOST_WAITING];
        private int length = 0;

        void clear() {
            length = 0;
        }

        private void add(int code) {
            if (length < codes.length) {
                codes[length] = code;
                length++;
            }
        }

        /** Reads what a level of the E is made of; the whole is the level CHOICES within no other. */
        private boolean readsLevel(Tape tape, int level, int depth) {
            if (level >= PARTS) {
                return readsPart(tape, depth);
            }
            if (!readsLevel(tape, level + 1, depth)) {
                return false;
            }
            int mostJoins = level == TESTS ? 1 : Tape.MOST;
            for (int i = 0; i < mostJoins; i++) {
                int code = joinAt(tape, level);
                if (code == NO_CODE) {
                    return true;
                }
                tape.advance();
                if (!readsLevel(tape, level + 1, depth)) {
                    return false;
                }
                add(code);
            }
            return true;
        }

        private static int joinAt(Tape tape, int level) {
            switch (level) {
                case CHOICES: return tape.reserved == Tape.AND ? AND : tape.reserved == Tape.OR ? OR : NO_CODE;
                case TESTS: return tape.isSign('<') ? LESS : tape.isSign('=') ? EQUAL : NO_CODE;
                case SUMS: return tape.isSign('+') ? PLUS : tape.isSign('-') ? MINUS : NO_CODE;
                case PRODUCTS: return tape.isSign('*') ? TIMES : NO_CODE;
                default: return NO_CODE;
            }
        }

        private boolean readsPart(Tape tape, int depth) {
            int fact = tape.placeIn(FACTS);
            boolean isNot = tape.reserved == Tape.NOT;
            boolean isGroup = tape.isSign('(');
            if (!tape.isNumber() && fact == NONE && !isNot && !isGroup) {
                return tape.isWrong(Tape.CANNOT_STAND);
            }
            if (depth >= DEEPEST) {
                return tape.isWrong(Tape.TOO_MANY);
            }
            if (isGroup) {
                tape.advance();
                if (!readsLevel(tape, CHOICES, depth + 1)) {
                    return false;
                }
                // Not by takesSign: with it calls would go nine deep, and rule 11 of LANGUAGE.md leaves eight.
                if (!tape.isSign(')')) {
                    return tape.isWrong(Tape.CANNOT_STAND);
                }
                tape.advance();
                return true;
            }
            if (isNot) {
                tape.advance();
                boolean isRead = readsPart(tape, depth + 1);
                add(NOT);
                return isRead;
            }
            add(fact == NONE ? tape.number : AGE - fact);
            tape.advance();
            return true;
        }

        boolean isFading(int age, int bad, int lit, int newer) {
            if (length == 0) {
                return UNTOLD_AGE < age;
            }
            int top = 0;
            for (int i = 0; i < length; i++) {
                int code = codes[i];
                if (code >= NEWER && top < MOST_WAITING) {
                    parts[top] = partOf(code, age, bad, lit, newer);
                    top++;
                } else if (code == NOT && top > 0) {
                    parts[top - 1] = parts[top - 1] == 0 ? 1 : 0;
                } else if (top > 1) {
                    top--;
                    parts[top - 1] = joined(code, parts[top - 1], parts[top]);
                }
            }
            return parts[0] != 0;
        }

        private static int partOf(int code, int age, int bad, int lit, int newer) {
            switch (code) {
                case AGE: return age;
                case BAD: return bad;
                case LIT: return lit;
                case NEWER: return newer;
                default: return code;
            }
        }

        private static int joined(int code, int left, int right) {
            switch (code) {
                case AND: return left != 0 && right != 0 ? 1 : 0;
                case OR: return left != 0 || right != 0 ? 1 : 0;
                case LESS: return left < right ? 1 : 0;
                case EQUAL: return left == right ? 1 : 0;
                case PLUS: return left + right;
                case MINUS: return left - right;
                default: return left * right;
            }
        }
    }

    /** What a street was told to be. */
    private static final class Street {
        static final int FROSTED = 1;
        static final int THICK = 2;
        static final int MIRROR = 3;

        private final Law law = new Law();
        private final int[] kinds = new int[PANES];
        private final int[] keeps = new int[PANES];
        /** The cells (bits) that a pane sees by light, a mirror's other way round too. */
        private final int[] views = new int[PANES];
        private final int[] homes = new int[PEOPLE];
        private final int[] harms = new int[DEEDS];
        private final int[] lights = new int[LIGHTS];
        private final long[] paneNames = new long[PANES];
        private final long[] personNames = new long[PEOPLE];
        private final long[] deedNames = new long[DEEDS];
        private int paneCount = 0;
        private int personCount = 0;
        private int deedCount = 0;
        private int lightCount = 0;

        void clear() {
            law.clear();
            paneCount = 0;
            personCount = 0;
            deedCount = 0;
            lightCount = 0;
        }

        boolean hasPane(int pane) {
            return pane >= 0 && pane < paneCount;
        }

        boolean hasPerson(int person) {
            return person >= 0 && person < personCount;
        }

        boolean hasDeed(int deed) {
            return deed >= 0 && deed < deedCount;
        }

        boolean isTold(long name) {
            return placeOf(paneNames, paneCount, name) != NONE
                || placeOf(personNames, personCount, name) != NONE
                || placeOf(deedNames, deedCount, name) != NONE;
        }

        int lightAt(int time) {
            return lightCount <= 0 ? 1 : lights[Math.floorMod(time, lightCount)];
        }

        static int placeOf(long[] names, int size, long name) {
            for (int i = 0; i < size && i < names.length; i++) {
                if (names[i] == name) {
                    return i;
                }
            }
            return NONE;
        }

        static int bothWays(int cells) {
            int both = cells;
            for (int cell = 0; cell < CELLS; cell++) {
                if ((cells >> cell & 1) != 0) {
                    both |= 1 << CELLS - 1 - cell;
                }
            }
            return both;
        }
    }

    /** Reads a tape as a street. */
    private static final class StreetReader {
        static boolean reads(Tape tape, Street street) {
            street.clear();
            tape.rewind();
            for (int i = 0; i < Tape.MOST && !tape.isAtEnd(); i++) {
                if (!readsLine(tape, street) || !tape.takesSign(';')) {
                    return false;
                }
            }
            return true;
        }

        private static boolean readsLine(Tape tape, Street street) {
            switch (tape.reserved) {
                case Tape.PANE: return readsPane(tape, street);
                case Tape.PERSON: return readsPerson(tape, street);
                case Tape.DEED: return readsDeed(tape, street);
                case Tape.LIGHT: return readsLight(tape, street);
                case Tape.FADES: return readsFades(tape, street);
                default: return tape.isWrong(Tape.CANNOT_STAND);
            }
        }

        private static boolean readsPane(Tape tape, Street street) {
            int pane = street.paneCount;
            if (pane >= PANES) {
                return tape.isWrong(Tape.TOO_MANY);
            }
            tape.advance();
            if (!hasNewName(tape, street)) {
                return false;
            }
            street.paneNames[pane] = tape.name;
            tape.advance();
            if (tape.reserved < Tape.PLAIN || tape.reserved > Tape.MIRROR) {
                return tape.isWrong(Tape.CANNOT_STAND);
            }
            street.kinds[pane] = tape.reserved - Tape.PLAIN;
            tape.advance();
            if (!tape.takesWord(Tape.KEEPS) || !tape.hasNumber(1, MOST_MARKS)) {
                return false;
            }
            street.keeps[pane] = tape.number;
            tape.advance();
            if (!tape.takesWord(Tape.SEES) || !readsView(tape, street, pane)) {
                return false;
            }
            street.paneCount++;
            return true;
        }

        private static boolean readsView(Tape tape, Street street, int pane) {
            int cells = 0;
            for (int i = 0; i <= CELLS && (i == 0 || tape.isNumber()); i++) {
                if (!tape.hasNumber(0, CELLS - 1)) {
                    return false;
                }
                if ((cells >> tape.number & 1) != 0) {
                    return tape.isWrong(Tape.TOLD_ALREADY);
                }
                cells |= 1 << tape.number;
                tape.advance();
            }
            street.views[pane] = street.kinds[pane] == Street.MIRROR ? Street.bothWays(cells) : cells;
            return true;
        }

        private static boolean readsPerson(Tape tape, Street street) {
            int person = street.personCount;
            if (person >= PEOPLE) {
                return tape.isWrong(Tape.TOO_MANY);
            }
            tape.advance();
            if (!hasNewName(tape, street)) {
                return false;
            }
            street.personNames[person] = tape.name;
            tape.advance();
            if (!tape.takesWord(Tape.AT) || !tape.hasNumber(0, CELLS - 1)) {
                return false;
            }
            street.homes[person] = tape.number;
            tape.advance();
            street.personCount++;
            return true;
        }

        private static boolean readsDeed(Tape tape, Street street) {
            int deed = street.deedCount;
            if (deed >= DEEDS) {
                return tape.isWrong(Tape.TOO_MANY);
            }
            tape.advance();
            if (!hasNewName(tape, street)) {
                return false;
            }
            street.deedNames[deed] = tape.name;
            tape.advance();
            if (!tape.takesWord(Tape.HARM) || !tape.hasNumber(0, MOST_HARM)) {
                return false;
            }
            street.harms[deed] = tape.number;
            tape.advance();
            street.deedCount++;
            return true;
        }

        private static boolean readsLight(Tape tape, Street street) {
            if (street.lightCount > 0) {
                return tape.isWrong(Tape.TOLD_ALREADY);
            }
            tape.advance();
            for (int i = 0; i <= LIGHTS && (i == 0 || tape.isNumber()); i++) {
                if (!tape.hasNumber(0, 1)) {
                    return false;
                }
                if (i >= LIGHTS) {
                    return tape.isWrong(Tape.TOO_MANY);
                }
                street.lights[i] = tape.number;
                street.lightCount++;
                tape.advance();
            }
            return true;
        }

        private static boolean readsFades(Tape tape, Street street) {
            if (street.law.length > 0) {
                return tape.isWrong(Tape.TOLD_ALREADY);
            }
            tape.advance();
            return street.law.readsLevel(tape, Law.CHOICES, 0);
        }

        private static boolean hasNewName(Tape tape, Street street) {
            if (!tape.isName()) {
                return tape.isWrong(Tape.CANNOT_STAND);
            }
            return !street.isTold(tape.name) || tape.isWrong(Tape.TOLD_ALREADY);
        }
    }

    /** The lines of a day: what is done (a word of the tape), by or to which, and what or whither. */
    private static final class Day {
        private final int[] verbs = new int[LINES];
        private final int[] firsts = new int[LINES];
        private final int[] seconds = new int[LINES];
        private int size = 0;
        private int firstRefused = NONE;
        private int firstUnseen = NONE;

        void clear() {
            size = 0;
        }

        /** Plays the day in a world that begins anew, and notes the first lines that can't be and that none saw. */
        void play(Street street, World world) {
            world.begin(street);
            firstRefused = NONE;
            firstUnseen = NONE;
            for (int line = 0; line < size; line++) {
                if (verbs[line] == Tape.DOES) {
                    int watchers = world.act(street, firsts[line], seconds[line]);
                    if (watchers == 0 && firstUnseen == NONE) {
                        firstUnseen = line;
                    }
                } else if (!isPlayed(street, world, line) && firstRefused == NONE) {
                    firstRefused = line;
                }
            }
        }

        private boolean isPlayed(Street street, World world, int line) {
            int first = firsts[line];
            switch (verbs[line]) {
                case Tape.WALK: return world.steps(first, seconds[line]);
                case Tape.WASH: return world.rinses(first);
                case Tape.CURTAIN: return world.pulls(first);
                case Tape.STONE: return world.smashes(first);
                default:
                    world.pass(street);
                    return true;
            }
        }
    }

    /** Reads a tape as a day in a street. */
    private static final class DayReader {
        static boolean reads(Tape tape, Street street, Day day) {
            day.clear();
            tape.rewind();
            for (int i = 0; i < Tape.MOST && !tape.isAtEnd(); i++) {
                if (!readsLine(tape, street, day) || !tape.takesSign(';')) {
                    return false;
                }
            }
            return true;
        }

        private static boolean readsLine(Tape tape, Street street, Day day) {
            int verb = tape.reserved;
            if (verb < Tape.WALK || verb > Tape.HOUR) {
                return tape.isWrong(Tape.CANNOT_STAND);
            }
            int line = day.size;
            if (line >= LINES) {
                return tape.isWrong(Tape.TOO_MANY);
            }
            tape.advance();
            day.verbs[line] = verb;
            day.size++;
            switch (verb) {
                case Tape.WALK:
                    return readsNames(tape, street.personNames, street.personCount, day.firsts, line)
                        && readsCell(tape, day, line);
                case Tape.DOES:
                    return readsNames(tape, street.personNames, street.personCount, day.firsts, line)
                        && readsNames(tape, street.deedNames, street.deedCount, day.seconds, line);
                case Tape.HOUR:
                    return true;
                default:
                    return readsNames(tape, street.paneNames, street.paneCount, day.firsts, line);
            }
        }

        private static boolean readsNames(Tape tape, long[] names, int size, int[] into, int line) {
            if (!tape.isName()) {
                return tape.isWrong(Tape.CANNOT_STAND);
            }
            int found = Street.placeOf(names, size, tape.name);
            if (found == NONE) {
                return tape.isWrong(Tape.UNKNOWN_NAME);
            }
            into[line] = found;
            tape.advance();
            return true;
        }

        private static boolean readsCell(Tape tape, Day day, int line) {
            if (!tape.hasNumber(0, CELLS - 1)) {
                return false;
            }
            day.seconds[line] = tape.number;
            tape.advance();
            return true;
        }
    }

    /** What can change in a street: the hour, where the people are, the panes with their marks, what is said. */
    private static final class World {
        /** A mark is one number: its age above these bits, then who, the deed, the cell. */
        private static final int AGE_SHIFT = 10;
        private static final int WHO_SHIFT = 7;
        private static final int DEED_SHIFT = 4;
        private static final int AGELESS = (1 << AGE_SHIFT) - 1;

        private int time = 0;
        private int drawn = 0;
        private int broken = 0;
        private int saidOf = 0;
        private int saidSeen = 0;
        private final int[] cells = new int[PEOPLE];
        private final int[] held = new int[PANES];
        /** The marks of all panes, MOST_MARKS places for each, the oldest first. */
        private final int[] marks = new int[PANES * MOST_MARKS];

        static int whoOf(int mark) {
            return mark >> WHO_SHIFT & 7;
        }

        static int deedOf(int mark) {
            return mark >> DEED_SHIFT & 7;
        }

        static int cellOf(int mark) {
            return mark & 15;
        }

        static int ageOf(int mark) {
            return mark >> AGE_SHIFT;
        }

        static boolean isAlike(int mark, int other) {
            return (mark & AGELESS) == (other & AGELESS);
        }

        void begin(Street street) {
            time = 0;
            drawn = 0;
            broken = 0;
            for (int person = 0; person < PEOPLE; person++) {
                cells[person] = street.homes[person];
            }
            for (int pane = 0; pane < PANES; pane++) {
                held[pane] = 0;
            }
        }

        void forgetSaid() {
            saidOf = 0;
            saidSeen = 0;
        }

        /** Copies all but what is said, which no undoing touches. */
        void copy(World other) {
            time = other.time;
            drawn = other.drawn;
            broken = other.broken;
            System.arraycopy(other.cells, 0, cells, 0, PEOPLE);
            System.arraycopy(other.held, 0, held, 0, PANES);
            System.arraycopy(other.marks, 0, marks, 0, PANES * MOST_MARKS);
        }

        void copySaid(World other) {
            saidOf = other.saidOf;
            saidSeen = other.saidSeen;
        }

        void hear(int pane, boolean isSeen) {
            saidOf |= 1 << pane;
            saidSeen = isSeen ? saidSeen | 1 << pane : saidSeen & ~(1 << pane);
        }

        boolean isDrawn(int pane) {
            return (drawn >> pane & 1) != 0;
        }

        boolean isBroken(int pane) {
            return (broken >> pane & 1) != 0;
        }

        boolean isOpenToAll(int pane) {
            return isBroken(pane) || !isDrawn(pane);
        }

        boolean tellsWho(Street street, int pane) {
            return isBroken(pane) || street.kinds[pane] != Street.FROSTED;
        }

        int marksHeld(Street street) {
            int all = 0;
            for (int pane = 0; pane < street.paneCount; pane++) {
                all += held[pane];
            }
            return all;
        }

        int markAt(int pane, int i) {
            return marks[pane * MOST_MARKS + i];
        }

        int sightOf(Street street, int pane) {
            if (isBroken(pane) || isDrawn(pane)) {
                return 0;
            }
            if (street.kinds[pane] == Street.THICK && street.lightAt(time) == 0) {
                return 0;
            }
            return street.views[pane];
        }

        int watchersOf(Street street, int cell) {
            int watchers = 0;
            for (int pane = 0; pane < street.paneCount; pane++) {
                watchers |= (sightOf(street, pane) >> cell & 1) << pane;
            }
            return watchers;
        }

        boolean canStep(int person, int cell) {
            return cell >= 0 && cell < CELLS && Math.abs(cell - cells[person]) == 1;
        }

        boolean steps(int person, int cell) {
            if (!canStep(person, cell)) {
                return false;
            }
            cells[person] = cell;
            return true;
        }

        int act(Street street, int person, int deed) {
            int cell = cells[person];
            int watchers = watchersOf(street, cell);
            for (int pane = 0; pane < street.paneCount; pane++) {
                if ((watchers >> pane & 1) != 0) {
                    addMark(pane, street.keeps[pane], person << WHO_SHIFT | deed << DEED_SHIFT | cell);
                }
            }
            return watchers;
        }

        private void addMark(int pane, int keeps, int mark) {
            if (held[pane] >= keeps) {
                dropMark(pane, 0);
            }
            marks[pane * MOST_MARKS + held[pane]] = mark;
            held[pane]++;
        }

        private void dropMark(int pane, int i) {
            held[pane]--;
            int begin = pane * MOST_MARKS;
            for (int at = begin + i; at < begin + held[pane]; at++) {
                marks[at] = marks[at + 1];
            }
        }

        boolean canRinse(int pane) {
            return !isBroken(pane) && held[pane] > 0;
        }

        boolean rinses(int pane) {
            if (!canRinse(pane)) {
                return false;
            }
            held[pane]--;
            return true;
        }

        boolean pulls(int pane) {
            if (isBroken(pane)) {
                return false;
            }
            drawn ^= 1 << pane;
            return true;
        }

        boolean smashes(int pane) {
            if (isBroken(pane)) {
                return false;
            }
            broken |= 1 << pane;
            return true;
        }

        /** An hour passes: how many marks faded. */
        int pass(Street street) {
            int faded = 0;
            int lit = street.lightAt(time);
            for (int pane = 0; pane < street.paneCount; pane++) {
                if (!isBroken(pane)) {
                    faded += fade(street, pane, lit);
                }
            }
            time++;
            return faded;
        }

        private int fade(Street street, int pane, int lit) {
            int before = held[pane];
            int at = 0;
            for (int i = 0; i < before; i++) {
                int mark = markAt(pane, at) + (1 << AGE_SHIFT);
                int bad = street.harms[deedOf(mark)];
                if (street.law.isFading(ageOf(mark), bad, lit, held[pane] - 1 - at)) {
                    dropMark(pane, at);
                } else {
                    marks[pane * MOST_MARKS + at] = mark;
                    at++;
                }
            }
            return before - at;
        }
    }

    /** What panes see now. */
    private static final class Sight {
        static int unseenCells(Street street, World world) {
            int unseen = ALL_CELLS;
            for (int pane = 0; pane < street.paneCount; pane++) {
                unseen &= ~world.sightOf(street, pane);
            }
            return unseen;
        }

        static int nearestUnseen(Street street, World world, int from) {
            int unseen = unseenCells(street, world);
            int best = NONE;
            for (int cell = 0; cell < CELLS; cell++) {
                boolean isNearer = best == NONE || Math.abs(cell - from) < Math.abs(best - from);
                if ((unseen >> cell & 1) != 0 && isNearer) {
                    best = cell;
                }
            }
            return best;
        }

        static int fewestWatching(Street street, World world, int cells) {
            int best = NONE;
            for (int cell = 0; cell < CELLS; cell++) {
                int watchers = world.watchersOf(street, cell);
                if ((cells >> cell & 1) != 0 && isBetterSet(watchers, best)) {
                    best = watchers;
                }
            }
            return best;
        }

        static int cellsAsSaid(Street street, World world) {
            int cells = ALL_CELLS;
            for (int pane = 0; pane < street.paneCount; pane++) {
                if ((world.saidOf >> pane & 1) != 0) {
                    int sight = world.sightOf(street, pane);
                    cells &= (world.saidSeen >> pane & 1) != 0 ? sight : ~sight;
                }
            }
            return cells;
        }

        static int bestToAsk(Street street, World world) {
            int cells = cellsAsSaid(street, world);
            int best = NONE;
            int least = Integer.bitCount(cells);
            for (int pane = 0; pane < street.paneCount; pane++) {
                int sight = world.sightOf(street, pane);
                int greater = Math.max(Integer.bitCount(cells & sight), Integer.bitCount(cells & ~sight));
                if ((world.saidOf >> pane & 1) == 0 && greater < least) {
                    best = pane;
                    least = greater;
                }
            }
            return best;
        }

        static int mostWatched(Street street, World world) {
            int best = 0;
            int most = 0;
            for (int cell = 0; cell < CELLS; cell++) {
                int watchers = Integer.bitCount(world.watchersOf(street, cell));
                if (watchers > most) {
                    best = cell;
                    most = watchers;
                }
            }
            return best;
        }

        static int mostPeopled(Street street, World world, int width) {
            int best = 0;
            int most = 0;
            for (int first = 0; first + width <= CELLS; first++) {
                int people = 0;
                for (int person = 0; person < street.personCount; person++) {
                    int cell = world.cells[person];
                    people += cell >= first && cell < first + width ? 1 : 0;
                }
                if (people > most) {
                    best = first;
                    most = people;
                }
            }
            return best;
        }
    }

    /** What the marks of the panes show. */
    private static final class Evidence {
        private static int harmOf(Street street, int deeds) {
            int harm = 0;
            for (int deed = 0; deed < street.deedCount; deed++) {
                harm += (deeds >> deed & 1) * street.harms[deed];
            }
            return harm;
        }

        /** The harm of the deeds that are shown by the newest marks, so many of each pane. */
        static int harmShown(Street street, World world, int newest) {
            int deeds = 0;
            for (int pane = 0; pane < street.paneCount; pane++) {
                int held = world.isOpenToAll(pane) ? world.held[pane] : 0;
                for (int i = Math.max(0, held - newest); i < held; i++) {
                    deeds |= 1 << World.deedOf(world.markAt(pane, i));
                }
            }
            return harmOf(street, deeds);
        }

        private static boolean isShownOf(Street street, World world, int pane, int i, int person) {
            return world.isOpenToAll(pane) && world.tellsWho(street, pane)
                && World.whoOf(world.markAt(pane, i)) == person;
        }

        /** The deeds (bits) that are shown of a person by some panes (bits). */
        private static int deedsShownOf(Street street, World world, int panes, int person) {
            int deeds = 0;
            for (int pane = 0; pane < street.paneCount; pane++) {
                int held = (panes >> pane & 1) != 0 ? world.held[pane] : 0;
                for (int i = 0; i < held; i++) {
                    if (isShownOf(street, world, pane, i, person)) {
                        deeds |= 1 << World.deedOf(world.markAt(pane, i));
                    }
                }
            }
            return deeds;
        }

        private static int allPanes(Street street) {
            return (1 << street.paneCount) - 1;
        }

        static int shameOf(Street street, World world, int person) {
            return harmOf(street, deedsShownOf(street, world, allPanes(street), person));
        }

        static int fewestProving(Street street, World world, int person, int deeds) {
            int best = NONE;
            for (int panes = 0; panes <= allPanes(street); panes++) {
                int proven = deedsShownOf(street, world, panes, person) & deeds;
                if (proven == deeds && isBetterSet(panes, best)) {
                    best = panes;
                }
            }
            return best;
        }

        static int fewestCloaking(Street street, World world, int person, int most) {
            int all = allPanes(street);
            int cannotBeDrawn = world.broken | world.drawn;
            int best = NONE;
            for (int panes = 0; panes <= all; panes++) {
                if ((panes & cannotBeDrawn) == 0 && isBetterSet(panes, best)
                    && harmOf(street, deedsShownOf(street, world, all & ~panes, person)) <= most) {
                    best = panes;
                }
            }
            return best;
        }

        /** A washing takes the newest mark, so all that is newer than the oldest such mark must go with it. */
        static int rinsesNeeded(Street street, World world, int person, int deed) {
            int rinses = 0;
            for (int pane = 0; pane < street.paneCount; pane++) {
                int held = world.isBroken(pane) ? 0 : world.held[pane];
                for (int i = 0; i < held; i++) {
                    int mark = world.markAt(pane, i);
                    if (World.whoOf(mark) == person && World.deedOf(mark) == deed) {
                        rinses += held - i;
                        break;
                    }
                }
            }
            return rinses;
        }

        static int marksUpTo(Street street, World world, int age) {
            int marks = 0;
            for (int pane = 0; pane < street.paneCount; pane++) {
                for (int i = 0; i < world.held[pane]; i++) {
                    marks += World.ageOf(world.markAt(pane, i)) <= age ? 1 : 0;
                }
            }
            return marks;
        }

        static int cellsShownOf(Street street, World world, int person) {
            int cells = 0;
            for (int pane = 0; pane < street.paneCount; pane++) {
                for (int i = 0; i < world.held[pane]; i++) {
                    if (isShownOf(street, world, pane, i, person)) {
                        cells |= 1 << World.cellOf(world.markAt(pane, i));
                    }
                }
            }
            return cells;
        }

        static int newestCellOf(Street street, World world, int person) {
            int cell = NONE;
            int least = 0;
            for (int pane = 0; pane < street.paneCount; pane++) {
                for (int i = world.held[pane] - 1; i >= 0; i--) {
                    int mark = world.markAt(pane, i);
                    boolean isNewer = cell == NONE || World.ageOf(mark) < least;
                    if (isNewer && isShownOf(street, world, pane, i, person)) {
                        cell = World.cellOf(mark);
                        least = World.ageOf(mark);
                    }
                }
            }
            return cell;
        }

        static int mostShamed(Street street, World world) {
            int worst = NONE;
            int most = 0;
            for (int person = 0; person < street.personCount; person++) {
                int shame = shameOf(street, world, person);
                if (shame > most) {
                    worst = person;
                    most = shame;
                }
            }
            return worst;
        }

        static int paneOfGreatestAge(Street street, World world) {
            int oldest = NONE;
            int greatest = -1;
            for (int pane = 0; pane < street.paneCount; pane++) {
                for (int i = 0; i < world.held[pane]; i++) {
                    int age = World.ageOf(world.markAt(pane, i));
                    if (age > greatest) {
                        oldest = pane;
                        greatest = age;
                    }
                }
            }
            return oldest;
        }

        /** Pairs each mark of a pane with one alike of the other that is not paired yet. */
        static int alikeMarks(World world, int pane, int other) {
            int paired = 0;
            for (int i = 0; i < world.held[pane]; i++) {
                for (int j = 0; j < world.held[other]; j++) {
                    boolean isFree = (paired >> j & 1) == 0;
                    if (isFree && World.isAlike(world.markAt(pane, i), world.markAt(other, j))) {
                        paired |= 1 << j;
                        break;
                    }
                }
            }
            return Integer.bitCount(paired);
        }
    }

    /** The worlds that can be gone back to, the last 16. */
    private static final class History {
        private static final int MOST = 16;
        private final World[] kept = new World[MOST];
        private int size = 0;
        private int next = 0;

        History() {
            for (int i = 0; i < MOST; i++) {
                kept[i] = new World();
            }
        }

        void clear() {
            size = 0;
        }

        void keep(World world) {
            kept[next].copy(world);
            next = (next + 1) % MOST;
            size = Math.min(size + 1, MOST);
        }

        boolean takeBack(World world) {
            if (size == 0) {
                return false;
            }
            next = (next + MOST - 1) % MOST;
            size--;
            world.copy(kept[next]);
            return true;
        }
    }

    /** Years by draws: what people did in them. */
    private static final class Draws {
        private static final int WASHING_ODDS = 9;
        private long g = 0;
        private int done = 0;
        private int unseen = 0;

        void play(Street street, World world, int seed, int hours) {
            g = seed;
            done = 0;
            unseen = 0;
            for (int i = 0; i < hours; i++) {
                for (int person = 0; person < street.personCount; person++) {
                    playPerson(street, world, person);
                }
                if (street.paneCount > 0 && draw(WASHING_ODDS) == 0) {
                    world.rinses(draw(street.paneCount));
                }
                world.pass(street);
            }
        }

        private void playPerson(Street street, World world, int person) {
            int choice = draw(3);
            if (choice < 2) {
                world.steps(person, world.cells[person] + (choice == 0 ? -1 : 1));
            } else if (street.deedCount > 0) {
                int watchers = world.act(street, person, draw(street.deedCount));
                done++;
                unseen += watchers == 0 ? 1 : 0;
            }
        }

        private int draw(int below) {
            g = (g * 1103515245L + 12345L) % 2147483648L;
            return below <= 0 ? 0 : (int) (g / 65536L % below);
        }
    }
}
