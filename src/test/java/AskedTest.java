import java.util.NoSuchElementException;

/** Promises 15 to 39: what is asked of a street, which no asking changes. */
public final class AskedTest {
    private static final String STREET = "pane bay plain keeps 2 sees 0 1 2 ; pane loft frosted keeps 3 sees 2 3 ; "
        + "pane shop thick keeps 1 sees 3 4 5 ; pane hall mirror keeps 2 sees 9 ; person ann at 2 ; person bob at 5 ; "
        + "deed steal harm 40 ; deed kiss harm 7 ; light 1 0 ; ";
    private static final int[] OTHERS = {-1, -2, 2, 32, Integer.MAX_VALUE, Integer.MIN_VALUE};

    public static void main(String[] args) {
        judging();
        shaming();
        hiding();
        proving();
        washing();
        fullPanes();
        darkening();
        saying();
        remembering();
        standing();
        trails();
        ages();
        cloaking();
        twins();
        runs();
        rents();
        years();
        Check.end();
    }

    private static void judging() {
        GlassStreet x = Check.made(STREET);
        Check.due("no day: no line", -1, x.judged(0));
        Check.due("no day: no line", -1, x.judged(1));
        Check.due("no day: no harm", 0, x.judged(2));
        x.walk(0, 3);
        x.does(0, 0);
        x.hour();
        Check.due("a day", 0, Check.day(x, "does ann kiss ; walk ann 3 ; walk ann 5 ; wash shop ; hour ; does bob steal ; "
            + "wash bay ; wash bay ; stone loft ; curtain loft ;"));
        Check.due("the first that can't be: walk ann 5, from the begin", 2, x.judged(0));
        Check.due("none saw bob by no light", 5, x.judged(1));
        Check.due("the broken loft shows the kiss", 7, x.judged(2));
        Check.due("another", -2, x.judged(3));
        Check.due("another", -2, x.judged(-1));
        Check.due("all is as ahead", 3, x.person(0));
        Check.due("the hour", 1, x.count(3));
        Check.due("what can be undone", 3, x.count(10));
        judged("stone bay ; stone bay ;", 1, -1, 0);
        judged("stone bay ; curtain bay ;", 1, -1, 0);
        judged("does ann steal ; stone bay ; wash loft ; wash bay ;", 3, -1, 40);
        judged("wash bay ;", 0, -1, 0);
        judged("does ann steal ; does ann kiss ; curtain bay ;", -1, -1, 47);
        judged("does ann steal ; curtain bay ; curtain loft ; does ann kiss ; curtain bay ;", -1, 3, 40);
        judged("walk ann 2 ; walk ann 1 ; does ann kiss ; walk ann 3 ;", 0, -1, 7);
        judged("does ann kiss ; hour ; hour ; hour ; hour ; hour ; hour ; hour ; hour ; hour ;", -1, -1, 0);
        judged("does ann kiss ; hour ; hour ; hour ; hour ; hour ; hour ; hour ; hour ;", -1, -1, 7);
    }

    private static void judged(String day, int refused, int unseen, int harm) {
        GlassStreet x = Check.made(STREET);
        Check.due("day " + day, 0, Check.day(x, day));
        Check.due("refused in " + day, refused, x.judged(0));
        Check.due("unseen in " + day, unseen, x.judged(1));
        Check.due("harm of " + day, harm, x.judged(2));
    }

    private static void shaming() {
        GlassStreet x = Check.made(STREET);
        Check.due("nobody", -1, x.worst());
        x.walk(0, 3);
        x.does(0, 0);
        Check.due("seen by the frosted and the thick one", 40, x.shame(0));
        x.curtain(2);
        Check.due("frosted: no shame", 0, x.shame(0));
        Check.due("frosted: harm", 40, x.harm());
        Check.due("nobody is shamed", -1, x.worst());
        x.stone(1);
        Check.due("a broken one tells", 40, x.shame(0));
        x.curtain(2);
        Check.due("a deed counts once", 40, x.shame(0) + x.shame(1));
        Check.due("ann", 0, x.worst());
        x.does(1, 0);
        Check.due("of equal ones the first", 0, x.worst());
        Check.due("by whom ever, once", 40, x.harm());
        x.does(1, 1);
        Check.due("the thick one keeps one", 7, x.shame(1));
        Check.due("both", 47, x.harm());
        for (int other : OTHERS) {
            Check.due("another", -1, x.shame(other));
        }
        GlassStreet y = Check.made("pane p plain keeps 1 sees 0 ; person a at 1 ; person b at 0 ; deed d harm 0 ; deed e harm 1 ;");
        y.does(1, 0);
        Check.due("no shame, nobody", -1, y.worst());
        y.does(1, 1);
        Check.due("b", 1, y.worst());
    }

    private static void hiding() {
        GlassStreet x = Check.made(STREET);
        Check.due("steps", 4, x.hide(0, 0));
        Check.due("the cell", 6, x.hide(0, 1));
        x.walk(1, 6);
        Check.due("no step", 0, x.hide(1, 0));
        Check.due("where he is", 6, x.hide(1, 1));
        x.curtain(0);
        Check.due("of equal ones the lesser: 1 or 6", 1, x.hide(0, 1));
        x.walk(0, 3);
        x.curtain(3);
        x.walk(0, 4);
        Check.due("1, 6 lie as 3, 2", 6, x.hide(0, 1));
        x.hour();
        Check.due("by no light 4 is dark", 4, x.hide(0, 1));
        for (int other : OTHERS) {
            Check.due("another", -1, x.hide(other, 0));
            Check.due("another what", -1, x.hide(0, other));
        }
        GlassStreet y = Check.made("pane p plain keeps 1 sees 0 1 2 4 5 6 7 8 9 ; pane q plain keeps 1 sees 1 3 ; "
            + "person a at 5 ;");
        Check.due("none", -1, y.hide(0, 0));
        Check.due("none", -1, y.hide(0, 1));
        y.curtain(1);
        Check.due("two steps", 2, y.hide(0, 0));
        GlassStreet z = Check.made("pane p plain keeps 1 sees 3 4 5 6 ; person a at 5 ; person b at 4 ;");
        Check.due("2 or 7 from 5", 7, z.hide(0, 1));
        Check.due("2 or 7 from 4", 2, z.hide(1, 1));
        GlassStreet t = Check.made("pane p plain keeps 1 sees 3 4 5 ; person a at 4 ;");
        Check.due("2 and 6 from 4 are alike: the lesser", 2, t.hide(0, 1));
    }

    private static void proving() {
        GlassStreet x = Check.made("pane p plain keeps 1 sees 0 1 ; pane q plain keeps 1 sees 1 2 ; pane r plain keeps 6 sees 2 3 ; "
            + "pane f frosted keeps 6 sees 0 1 2 3 ; person a at 1 ; person b at 1 ; "
            + "deed d harm 1 ; deed e harm 2 ; deed g harm 0 ;");
        Check.due("no deeds", 0, x.proof(0, 0));
        Check.due("by none", -1, x.proof(0, 1));
        x.does(0, 0);
        Check.due("p or q: the least set", 1, x.proof(0, 1));
        Check.due("not of b", -1, x.proof(1, 1));
        x.walk(0, 2);
        x.does(0, 1);
        Check.due("q shows e now, and r", 2, x.proof(0, 2));
        Check.due("both: p, and q or r", 3, x.proof(0, 3));
        x.curtain(1);
        Check.due("q's curtain is drawn", 5, x.proof(0, 3));
        x.stone(3);
        Check.due("the broken one alone", 8, x.proof(0, 3));
        Check.due("e alone: r is the least of r, f", 4, x.proof(0, 2));
        Check.due("g was not done", -1, x.proof(0, 4));
        Check.due("no fourth deed", -1, x.proof(0, 8));
        Check.due("no fourth deed", -1, x.proof(0, 9));
        Check.due("others", -1, x.proof(0, -1));
        Check.due("others", -1, x.proof(0, Integer.MIN_VALUE));
        Check.due("others", -1, x.proof(-1, 0));
        Check.due("others", -1, x.proof(2, 0));
    }

    private static void washing() {
        GlassStreet x = Check.made("pane p plain keeps 4 sees 0 ; pane f frosted keeps 2 sees 0 ; person a at 0 ; "
            + "person b at 0 ; deed d harm 1 ; deed e harm 2 ;");
        Check.due("none", 0, x.washes(0, 0));
        x.does(0, 0);
        x.does(1, 0);
        x.does(0, 1);
        Check.due("p: all three, f has it no more", 3, x.washes(0, 0));
        Check.due("b's: two and two", 4, x.washes(1, 0));
        Check.due("the newest of both", 2, x.washes(0, 1));
        Check.due("not done", 0, x.washes(1, 1));
        x.does(0, 0);
        Check.due("the oldest of it: four and one", 5, x.washes(0, 0));
        x.curtain(0);
        Check.due("a curtain hides none", 5, x.washes(0, 0));
        x.stone(0);
        Check.due("whole ones alone", 1, x.washes(0, 0));
        for (int other : OTHERS) {
            Check.due("others", -1, x.washes(other, 0));
            Check.due("others", -1, x.washes(0, other));
        }
    }

    /** The last place of the last pane is held: no asking may look behind it. */
    private static void fullPanes() {
        StringBuilder text = new StringBuilder("person a at 0 ; person b at 0 ; deed d harm 3 ; deed e harm 4 ; fades 0 ; ");
        for (char name = 'p'; name < 'v'; name++) {
            text.append("pane ").append(name).append(" plain keeps 6 sees 0 ; ");
        }
        GlassStreet x = Check.made(text.toString());
        for (int i = 0; i < 7; i++) {
            Check.due("seen by all six", 63, x.does(0, 0));
        }
        Check.due("all places are held", 36, x.count(5));
        Check.due("b's: none", 0, x.washes(1, 0));
        Check.due("a's: all", 36, x.washes(0, 0));
        Check.due("e: none", 0, x.washes(0, 1));
        Check.due("behind the newest", -2, x.shown(5, 6, 0));
        Check.due("the newest", 0, x.shown(5, 5, 2));
        Check.due("alike", 6, x.twin(4, 5));
        Check.due("harm", 9, x.harm() + x.memory(1) + x.memory(6));
        Check.due("young", 36, x.young(0));
        Check.due("trail and last", 1, x.trail(0) + x.last(0));
        Check.due("b's trail", 0, x.trail(1));
        Check.due("b is not shown", -1, x.last(1));
        Check.due("oldest", 0, x.oldest());
        Check.due("cloak", 63, x.cloak(0, 2));
        Check.due("proof of e", -1, x.proof(0, 2));
        Check.due("never", -1, x.run(5));
        Check.due("none fades", 0, x.hour());
        Check.due("the last is washed", 5, x.wash(5));
    }

    private static void darkening() {
        GlassStreet x = Check.made(STREET);
        Check.due("6 is dark", 0, x.dark(1 << 6));
        Check.due("3", 6, x.dark(1 << 3));
        Check.due("2 is seen by 0 and 1, 3 by 1 and 2: the least set", 3, x.dark(12));
        Check.due("0 by 0 and 3, 9 by 3", 8, x.dark(513));
        Check.due("1 by 0, 4 by 2", 1, x.dark(18));
        Check.due("all", 0, x.dark(1023));
        Check.due("no cell", -1, x.dark(0));
        Check.due("others", -1, x.dark(1024));
        Check.due("others", -1, x.dark(1025));
        Check.due("others", -1, x.dark(-1));
        x.curtain(1);
        Check.due("drawn already", 1, x.dark(4));
        x.stone(0);
        Check.due("no more", 0, x.dark(4));
        x.hour();
        Check.due("no light", 0, x.dark(8));
        Check.due("fewer go ahead of the least bits", 8, Check.made("pane a plain keeps 1 sees 0 ; pane b plain keeps 1 sees 0 ; "
            + "pane c plain keeps 1 sees 0 ; pane d plain keeps 1 sees 1 ;").dark(3));
    }

    private static void saying() {
        GlassStreet x = Check.made(STREET);
        Check.due("all", 1023, x.where());
        Check.due("bay and shop part 3 from 7: the first", 0, x.ask());
        Check.due("said", true, x.say(0, false));
        Check.due("not 0 1 2", 1016, x.where());
        Check.due("shop parts 3 from 4", 2, x.ask());
        Check.due("said", true, x.say(2, true));
        Check.due("3 4 5", 56, x.where());
        Check.due("loft parts 1 from 2", 1, x.ask());
        Check.due("in place of the elder", true, x.say(2, false));
        Check.due("6 to 9", 960, x.where());
        Check.due("hall parts 1 from 3", 3, x.ask());
        x.say(3, true);
        Check.due("9", 512, x.where());
        Check.due("one is all", -1, x.ask());
        x.say(1, true);
        Check.due("none", 0, x.where());
        Check.due("none parts none", -1, x.ask());
        Check.due("others", false, x.say(4, true) || x.say(-1, false) || x.say(Integer.MAX_VALUE, true));
        x.say(1, false);
        x.curtain(3);
        Check.due("done now: hall sees none", 0, x.where());
        x.curtain(3);
        Check.due("undone", 512, x.where());
        x.stone(2);
        Check.due("no more: it did not see it", 512, x.where());
        Check.due("of a broken one, too", true, x.say(2, true));
        Check.due("it sees none", 0, x.where());
        GlassStreet y = Check.made("pane p plain keeps 1 sees 0 1 2 3 4 5 6 7 ; pane q plain keeps 1 sees 0 1 ; pane r plain keeps 1 sees 5 6 7 8 9 ;");
        Check.due("the evenest", 2, y.ask());
        y.say(2, true);
        Check.due("of 5 to 9 p parts 3 from 2", 0, y.ask());
        y.say(0, true);
        Check.due("none parts 5 6 7", -1, y.ask());
        Check.due("5 6 7", 224, y.where());
    }

    private static void remembering() {
        GlassStreet x = Check.made("pane p plain keeps 3 sees 0 ; pane q frosted keeps 3 sees 1 ; person a at 0 ; "
            + "deed d harm 1 ; deed e harm 20 ; deed f harm 50 ;");
        x.does(0, 0);
        x.does(0, 1);
        x.does(0, 2);
        Check.due("one", 50, x.memory(1));
        Check.due("two", 70, x.memory(2));
        Check.due("three", 71, x.memory(3));
        Check.due("six", 71, x.memory(6));
        x.walk(0, 1);
        x.does(0, 0);
        Check.due("one of each", 51, x.memory(1));
        x.stone(0);
        Check.due("of a broken one, too", 51, x.memory(1));
        x.curtain(1);
        Check.due("not behind a curtain", 50, x.memory(1));
        Check.due("others", -3, x.memory(0) + x.memory(7) + x.memory(-1));
        Check.due("all is as ahead", 71, x.harm());
    }

    private static void standing() {
        GlassStreet x = Check.made(STREET);
        Check.due("ann by bay and loft", 3, x.seen(0));
        Check.due("bob by shop", 4, x.seen(1));
        Check.due("most eyes on 0, 2, 3: the first", 0, x.eyes());
        x.curtain(3);
        Check.due("2", 2, x.eyes());
        Check.due("blind", 960, x.blind());
        x.hour();
        Check.due("by no light", 1008, x.blind());
        Check.due("bob by none", 0, x.seen(1));
        for (int other : OTHERS) {
            Check.due("others", -1, x.seen(other));
        }
        Check.due("no eyes", 0, new GlassStreet().eyes());
        Check.due("one cell", 2, x.glass(1));
        Check.due("three cells: one of the two, the first", 0, x.glass(3));
        Check.due("four cells", 2, x.glass(4));
        Check.due("five cells", 1, x.glass(5));
        Check.due("ten", 0, x.glass(10));
        Check.due("others", -3, x.glass(0) + x.glass(11) + x.glass(-5));
        GlassStreet y = Check.made("person a at 9 ; person b at 9 ; person c at 0 ;");
        Check.due("both at 9", 9, y.glass(1));
        Check.due("7 8 9", 7, y.glass(3));
    }

    private static void trails() {
        GlassStreet x = Check.made("pane p plain keeps 3 sees 0 1 2 ; pane q plain keeps 6 sees 1 2 3 ; pane f frosted keeps 6 sees 0 1 2 3 4 ; "
            + "person a at 1 ; person b at 4 ; deed d harm 1 ;");
        Check.due("none", 0, x.trail(0));
        Check.due("none", -1, x.last(0));
        x.does(0, 0);
        Check.due("1", 2, x.trail(0));
        x.hour();
        x.walk(0, 2);
        x.does(0, 0);
        x.walk(0, 3);
        x.does(0, 0);
        Check.due("1 2 3", 14, x.trail(0));
        Check.due("of the least age the first pane's", 2, x.last(0));
        x.curtain(0);
        Check.due("q's newest", 3, x.last(0));
        x.does(1, 0);
        Check.due("frosted does not tell of b", 0, x.trail(1));
        Check.due("nor where", -1, x.last(1));
        x.stone(2);
        Check.due("broken it does", 16, x.trail(1));
        Check.due("and where", 4, x.last(1));
        x.hour();
        Check.due("a broken one's do not age", 3, x.last(0));
        for (int other : OTHERS) {
            Check.due("others", -1, x.trail(other));
            Check.due("others", -1, x.last(other));
        }
    }

    private static void ages() {
        GlassStreet x = Check.made("pane p plain keeps 3 sees 0 ; pane q plain keeps 3 sees 1 ; pane r plain keeps 1 sees 1 ; "
            + "person a at 1 ; deed d harm 1 ;");
        Check.due("no mark", -1, x.oldest());
        Check.due("none", 0, x.young(99));
        x.does(0, 0);
        x.walk(0, 0);
        x.does(0, 0);
        Check.due("of equal ones the first", 0, x.oldest());
        x.hour();
        x.hour();
        x.does(0, 0);
        Check.due("one of age 0", 1, x.young(0));
        Check.due("one up to 1", 1, x.young(1));
        Check.due("four up to 2", 4, x.young(2));
        Check.due("all", 4, x.young(Integer.MAX_VALUE));
        Check.due("none", 0, x.young(-1));
        Check.due("none", 0, x.young(Integer.MIN_VALUE));
        x.curtain(0);
        Check.due("behind a curtain, too", 0, x.oldest());
        Check.due("behind a curtain, too", 4, x.young(2));
        x.stone(0);
        x.hour();
        Check.due("q's age on", 1, x.oldest());
    }

    private static void cloaking() {
        GlassStreet x = Check.made("pane p plain keeps 6 sees 0 1 ; pane q plain keeps 6 sees 1 2 ; pane r plain keeps 6 sees 2 ; "
            + "pane f frosted keeps 6 sees 0 1 2 ; person a at 0 ; deed d harm 10 ; deed e harm 20 ; deed g harm 40 ;");
        Check.due("no shame", 0, x.cloak(0, 0));
        x.does(0, 0);
        x.walk(0, 1);
        x.does(0, 1);
        x.walk(0, 2);
        x.does(0, 2);
        Check.due("all is shown", 70, x.shame(0));
        Check.due("so much", 0, x.cloak(0, 70));
        Check.due("less: p with d", 1, x.cloak(0, 69));
        Check.due("p alone", 1, x.cloak(0, 60));
        Check.due("59: q, r hide g, p, q hide d and e: the least set of two", 3, x.cloak(0, 59));
        Check.due("39: q, r", 6, x.cloak(0, 39));
        Check.due("none", 7, x.cloak(0, 0));
        x.curtain(1);
        Check.due("e and d of p, g of r", 4, x.cloak(0, 30));
        x.stone(0);
        Check.due("the broken one shows 30", 4, x.cloak(0, 30));
        Check.due("for good", -1, x.cloak(0, 29));
        x.stone(3);
        Check.due("so does the frosted one now", -1, x.cloak(0, 69));
        Check.due("so much", 0, x.cloak(0, 70));
        Check.due("at most", 0, x.cloak(0, 495));
        Check.due("others", -1, x.cloak(0, 496));
        Check.due("others", -1, x.cloak(0, -1));
        Check.due("others", -1, x.cloak(1, 495));
        Check.due("others", -1, x.cloak(-1, 495));
    }

    private static void twins() {
        GlassStreet x = Check.made("pane p plain keeps 6 sees 0 1 ; pane q plain keeps 3 sees 0 ; pane r plain keeps 6 sees 1 ; "
            + "person a at 0 ; person b at 0 ; deed d harm 1 ; deed e harm 2 ;");
        x.does(0, 0);
        x.does(0, 0);
        Check.due("two alike", 2, x.twin(0, 1));
        x.wash(1);
        Check.due("as many as the one that has fewer", 1, x.twin(0, 1));
        Check.due("either way", 1, x.twin(1, 0));
        x.hour();
        x.does(0, 1);
        x.does(1, 1);
        Check.due("unlike deeds, people", 3, x.twin(0, 1));
        x.walk(0, 1);
        x.does(0, 0);
        Check.due("another cell", 0, x.twin(1, 2));
        Check.due("that one", 1, x.twin(0, 2));
        x.curtain(0);
        x.stone(1);
        Check.due("shown or not", 3, x.twin(0, 1));
        Check.due("the same", -1, x.twin(1, 1));
        for (int other : new int[] {-1, 3, 6, Integer.MAX_VALUE, Integer.MIN_VALUE}) {
            Check.due("others", -1, x.twin(other, 0));
            Check.due("others", -1, x.twin(0, other));
        }
    }

    private static void runs() {
        GlassStreet x = Check.made("pane p plain keeps 3 sees 0 ; pane q plain keeps 3 sees 1 ; person a at 0 ; deed d harm 1 ; deed e harm 98 ; deed f harm 99 ; "
            + "fades bad < age ;");
        Check.due("it has none", 0, x.run(0));
        x.does(0, 0);
        Check.due("two hours", 2, x.run(0));
        x.does(0, 1);
        Check.due("99 hours", 99, x.run(0));
        x.does(0, 2);
        Check.due("not within 99", -1, x.run(0));
        x.hour();
        Check.due("99 hours more", 99, x.run(0));
        x.curtain(0);
        Check.due("behind a curtain, too", 99, x.run(0));
        x.stone(0);
        Check.due("no more: never", -1, x.run(0));
        x.stone(1);
        Check.due("no more, but it has none", 0, x.run(1));
        Check.due("all is as ahead", 1, x.count(3));
        Check.due("others", -3, x.run(2) + x.run(-1) + x.run(Integer.MAX_VALUE));
        GlassStreet y = Check.made("pane p plain keeps 3 sees 0 ; person a at 0 ; deed d harm 1 ; light 0 0 0 1 ; fades lit ;");
        y.does(0, 0);
        Check.due("by the light of the hours", 4, y.run(0));
        y.hour();
        Check.due("an hour less", 3, y.run(0));
    }

    private static int rests(int high, int low, int alone, int what) {
        try {
            return new GlassStreet().rests(high, low, alone, what);
        } catch (NoSuchElementException none) {
            return -9;
        }
    }

    private static void rents() {
        Check.due("both low alone", 1, rests(5, 2, 8, -1));
        Check.due("both low", 0, rests(5, 2, 8, 0));
        Check.due("no second", -9, rests(5, 2, 8, 1));
        Check.due("both low or both high", 2, rests(5, 2, 4, -1));
        Check.due("the least first", 0, rests(5, 2, 4, 0));
        Check.due("both high", 3, rests(5, 2, 4, 1));
        Check.due("no third", -9, rests(5, 2, 4, 2));
        Check.due("alike is no more", 4, rests(3, 0, 3, -1));
        for (int i = 0; i < 4; i++) {
            Check.due("all four", i, rests(3, 0, 3, i));
        }
        Check.due("low 0, alone more: all but both high", 3, rests(3, 0, 4, -1));
        Check.due("one high", 1, rests(3, 0, 4, 1));
        Check.due("the other", 2, rests(3, 0, 4, 2));
        Check.due("nothing at all: all four", 4, rests(0, 0, 0, -1));
        Check.due("the most", 2, rests(9, 9, 9, -1));
        for (int other : new int[] {-1, 10, Integer.MAX_VALUE, Integer.MIN_VALUE}) {
            Check.due("others", -9, rests(other, 0, 0, -1));
            Check.due("others", -9, rests(0, other, 0, -1));
            Check.due("others", -9, rests(0, 0, other, -1));
        }
        Check.due("another what", -9, rests(0, 0, 0, 4));
        Check.due("another what", -9, rests(0, 0, 0, -2));
        Check.due("another what", -9, rests(0, 0, 0, Integer.MIN_VALUE));
    }

    private static void years() {
        GlassStreet x = Check.made(STREET);
        x.hour();
        x.does(0, 0);
        int before = x.count(10);
        for (int what = 0; what < 3; what++) {
            Check.due("the same again", x.years(7, 50, what), x.years(7, 50, what));
        }
        Check.due("the hour is as ahead", 1, x.count(3));
        Check.due("the marks", 2, x.count(5));
        Check.due("what can be undone", before, x.count(10));
        Check.due("ann", 2, x.person(0));
        Check.due("others", -2, x.years(-1, 1, 0) + x.years(10000, 1, 0));
        Check.due("others", -2, x.years(0, 0, 0) + x.years(0, 100, 0));
        Check.due("others", -2, x.years(0, 1, 3) + x.years(0, 1, -1));
        // By hand, seed 1: the draws' g / 65536 are 16838, 5758, 10113, 17515, 31051, 5627, 23010, 7419, ...
        GlassStreet y = Check.made("pane p plain keeps 1 sees 4 ; person a at 5 ; deed d harm 9 ;");
        Check.due("16838 % 3 = 2: a deed (5758), at 5 unseen; 10113 % 9 = 6", 1, y.years(1, 1, 0));
        Check.due("unseen", 1, y.years(1, 1, 1));
        Check.due("then 17515 % 3 = 1: on; 31051 % 9 = 1", 1, y.years(1, 2, 0));
        Check.due("then 5627 % 3 = 2: a deed (23010), at 6 unseen; 7419 % 9 = 3", 2, y.years(1, 3, 1));
        Check.due("no harm", 0, y.years(1, 3, 2));
        y.walk(0, 4);
        Check.due("at 4 the first is seen", 0, y.years(1, 1, 1));
        Check.due("harm", 9, y.years(1, 1, 2));
        GlassStreet z = Check.made("pane p plain keeps 6 sees 0 ; pane q plain keeps 6 sees 1 ; person a at 0 ; "
            + "deed d harm 9 ; deed e harm 20 ; fades 0 ;");
        z.does(0, 0);
        z.walk(0, 1);
        z.does(0, 1);
        Check.due("41: 2242 % 3 = 1: on; 32742 % 9 = 0: 15143 % 2 = 1: q is washed", 9, z.years(41, 1, 2));
        Check.due("45: 4059 % 3 = 0: back; 2673 % 9 = 0: 15646 % 2 = 0: p is washed", 20, z.years(45, 1, 2));
        Check.due("no washing stays", 29, z.harm());
        z.stone(1);
        Check.due("41: q can't be washed", 29, z.years(41, 1, 2));
        Check.due("no deeds: no draw", 0, Check.made("person a at 5 ;").years(1, 9, 0));
    }
}
