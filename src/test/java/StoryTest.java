/** What the document says of the class as a whole: its first lines, each told by calls, and what it does not promise. */
public final class StoryTest {
    private static final Doc FIRST = Doc.part("Windows look back:", "An object is used");
    private static final Doc LAST = Doc.part("## Not promised", "");

    private static final String STREET = "pane bay plain keeps 2 sees 0 1 2 ; pane loft frosted keeps 3 sees 2 3 ; "
        + "pane shop thick keeps 1 sees 3 4 5 ; pane hall mirror keeps 2 sees 9 ; "
        + "person ann at 2 ; person bob at 5 ; deed steal harm 40 ; deed kiss harm 7 ; light 1 0 ;";
    private static final int ANN = 0;
    private static final int BOB = 1;
    private static final int STEAL = 0;
    private static final int KISS = 1;
    private static final int BAY = 0;
    private static final int LOFT = 1;
    private static final int SHOP = 2;
    private static final int HALL = 3;

    public static void main(String[] args) {
        glass();
        curtainsAndCleaners();
        memories();
        frostedAndStones();
        rooms();
        tellings();
        asked();
        doneAndUndone();
        FIRST.end();
        notPromised();
        LAST.end();
        Check.end();
    }

    private static void glass() {
        GlassStreet x = Check.made(STREET);
        FIRST.says("Windows look back: in this street the glass sees, and remembers, and shows it, of an evening, from outside,");
        Check.due("bay and loft see it", 3, x.does(ANN, STEAL));
        Check.due("and remember", 1, x.pane(BAY, 2));
        Check.due("of an evening", 0, x.hour());
        Check.due("there is no light", 0, x.count(4));
        Check.due("it shows it", "0021", Check.marks(x, BAY));

        FIRST.says("so burglars are watched by what they did,");
        Check.due("her deed is shown", 40, x.shame(ANN));
        Check.due("his are not", 0, x.shame(BOB));
        Check.due("ann", ANN, x.worst());
        Check.due("where she was", 4, x.trail(ANN));
    }

    private static void curtainsAndCleaners() {
        GlassStreet x = Check.made(STREET);
        x.does(ANN, STEAL);
        FIRST.says("curtains are amnesties,");
        Check.due("drawn", true, x.curtain(BAY));
        Check.due("nothing is shown of her", 0, x.shame(ANN));
        Check.due("nor by bay", -2, x.shown(BAY, 0, 1));
        Check.due("drawn", true, x.curtain(LOFT));
        Check.due("nothing at all", 0, x.harm());
        Check.due("open", true, x.curtain(BAY));
        Check.due("it was remembered", 40, x.shame(ANN));

        FIRST.says("cleaners are censors,");
        Check.due("washed", 0, x.wash(BAY));
        Check.due("nothing is shown of her", 0, x.shame(ANN));
        x.curtain(LOFT);
        Check.due("loft shows the deed", 40, x.harm());
        Check.due("washed", 0, x.wash(LOFT));
        Check.due("nothing at all", 0, x.harm());
    }

    private static void memories() {
        GlassStreet x = Check.made("pane top plain keeps 1 sees 0 ; person cat at 0 ; deed nap harm 1 ; fades 98 < age ;");
        FIRST.says("an upstairs pane ran all June,");
        Check.due("nothing to run", 0, x.run(0));
        x.does(0, 0);
        Check.due("as long as can be", 99, x.run(0));
        x.hour();
        Check.due("an hour less", 98, x.run(0));
        GlassStreet y = Check.made("pane top plain keeps 1 sees 0 ; person cat at 0 ; deed nap harm 1 ; fades 99 < age ;");
        y.does(0, 0);
        Check.due("longer", GlassStreet.NONE, y.run(0));

        FIRST.says("lodgers choose frosted,");
        GlassStreet z = Check.made(STREET);
        z.walk(ANN, 3);
        z.curtain(SHOP);
        Check.due("loft sees it", 2, z.does(ANN, STEAL));
        Check.due("not who", GlassStreet.NONE, z.shown(LOFT, 0, 0));
        Check.due("but what", STEAL, z.shown(LOFT, 0, 1));
        Check.due("shame", 0, z.shame(ANN));
        Check.due("harm", 40, z.harm());
    }

    private static void frostedAndStones() {
        GlassStreet x = Check.made(STREET);
        x.does(ANN, STEAL);
        x.does(ANN, KISS);
        FIRST.says("a stone's perjury,");
        Check.due("at loft", true, x.stone(LOFT));
        Check.due("who it was", "0020 0120", Check.marks(x, LOFT));
        Check.due("no curtain", false, x.curtain(LOFT));
        Check.due("no washing", GlassStreet.NONE, x.wash(LOFT));
        Check.due("no second stone", false, x.stone(LOFT));
        for (int i = 0; i < 20; i++) {
            x.hour();
        }
        Check.due("bay forgot", 0, x.pane(BAY, 2));
        Check.due("for good", "0020 0120", Check.marks(x, LOFT));
        Check.due("her shame", 47, x.shame(ANN));

        FIRST.says("two opposite have been showing each other for years,");
        GlassStreet y = Check.made(STREET);
        y.does(ANN, STEAL);
        y.does(ANN, STEAL);
        Check.due("two marks alike", 2, y.twin(BAY, LOFT));
        for (int i = 0; i < 8; i++) {
            y.hour();
        }
        Check.due("still", 2, y.twin(LOFT, BAY));
        y.hour();
        Check.due("no more", 0, y.twin(BAY, LOFT));
    }

    private static void rooms() {
        GlassStreet x = Check.made(STREET);
        x.does(ANN, STEAL);
        x.does(BOB, KISS);
        FIRST.says("brides move in with new panes,");
        Check.due("marks", 3, x.count(5));
        Check.due("a new street", 0, Check.street(x, STREET));
        Check.due("no marks", 0, x.count(5));

        FIRST.says("cats are continuous,");
        GlassStreet cats = Check.made("pane top plain keeps 3 sees 0 ; person cat at 0 ; deed nap harm 0 ;");
        for (int i = 0; i < 20; i++) {
            Check.due("the cat", 1, cats.does(0, 0));
            Check.due("an hour", 0, cats.hour());
        }
        Check.due("all that it keeps", "0003 0002 0001", Check.marks(cats, 0));

        FIRST.says("the blind man's is rented,");
        Check.due("cells 6 to 8", 448, x.blind());
        Check.due("both low alone is at rest", 1, x.rests(5, 2, 8, GlassStreet.NONE));

        FIRST.says("and hers, since the funeral, a hand drawing it to;");
        Check.due("drawn", true, x.curtain(HALL));
        for (int i = 0; i < 30; i++) {
            x.hour();
        }
        Check.due("still drawn", 1, x.pane(HALL, 3));
        Check.due("it alone", 8, x.count(6));
        Check.due("it sees nothing", 0, x.pane(HALL, 5));
        Check.due("9 is blind, too", 448 | 512, x.blind());
    }

    private static void tellings() {
        FIRST.says("streets told in a language, with panes of four kinds by the cells they see and how much they keep, "
            + "people, deeds by their harm, light by hours, a law of what fades;");
        GlassStreet x = Check.made(STREET);
        int[] keeps = {2, 3, 1, 2};
        int[] sees = {7, 12, 56, 513};
        for (int pane = 0; pane < 4; pane++) {
            Check.due("kind of " + pane, pane, x.pane(pane, 0));
            Check.due("keeps of " + pane, keeps[pane], x.pane(pane, 1));
            Check.due("sees of " + pane, sees[pane], x.pane(pane, 5));
        }
        Check.due("ann", 2, x.person(ANN));
        Check.due("bob", 5, x.person(BOB));
        Check.due("deeds", 2, x.count(2));
        for (int hour = 0; hour < 5; hour++) {
            Check.due("light of " + hour, 1 - hour % 2, x.count(4));
            x.hour();
        }
        GlassStreet y = Check.made(STREET + "fades 0 < age ;");
        y.does(ANN, STEAL);
        Check.due("by this law all fades", 2, y.hour());

        FIRST.says("days by hand: walks, deeds, washings, curtains, stones, hours, and told ones judged;");
        GlassStreet z = Check.made(STREET);
        Check.due("a walk", true, z.walk(BOB, 4));
        Check.due("a deed", 4, z.does(BOB, KISS));
        Check.due("a washing", 0, z.wash(SHOP));
        Check.due("a curtain", true, z.curtain(BAY));
        Check.due("a stone", true, z.stone(HALL));
        Check.due("an hour", 0, z.hour());
        Check.due("the same and more, told", 0, Check.day(z, "walk bob 4 ; does bob kiss ; wash shop ; curtain bay ; "
            + "stone hall ; hour ; does bob steal ; wash shop ;"));
        Check.due("the second washing can't be", 7, z.judged(0));
        Check.due("shop is blind by no light", 6, z.judged(1));
        Check.due("nothing is shown", 0, z.judged(2));
    }

    private static void asked() {
        GlassStreet x = Check.made(STREET);
        x.does(ANN, STEAL);
        x.does(BOB, KISS);
        FIRST.says("what each pane shows, whom it shames, what harm that is;");
        Check.due("bay", "0020", Check.marks(x, BAY));
        Check.due("loft", "?020", Check.marks(x, LOFT));
        Check.due("shop", "1150", Check.marks(x, SHOP));
        Check.due("hall", "", Check.marks(x, HALL));
        Check.due("ann", 40, x.shame(ANN));
        Check.due("bob", 7, x.shame(BOB));
        Check.due("all", 47, x.harm());

        FIRST.says("the nearest cell where a deed is seen by none;");
        Check.due("steps", 4, x.hide(ANN, 0));
        Check.due("the cell", 6, x.hide(ANN, 1));

        GlassStreet y = Check.made(STREET);
        y.does(ANN, STEAL);
        y.walk(ANN, 3);
        Check.due("loft and shop see it", 6, y.does(ANN, KISS));
        FIRST.says("the fewest panes that prove deeds;");
        Check.due("the theft", 1, y.proof(ANN, 1));
        Check.due("the kiss", 4, y.proof(ANN, 2));
        Check.due("both", 5, y.proof(ANN, 3));

        FIRST.says("how many washings hide one, which curtains;");
        Check.due("of bay once, of loft twice", 3, y.washes(ANN, STEAL));
        Check.due("of loft and shop", 2, y.washes(ANN, KISS));
        Check.due("cell 3", 6, y.dark(8));
        Check.due("no shame", 5, y.cloak(ANN, 0));
        Check.due("less shame than a theft", 1, y.cloak(ANN, 39));

        FIRST.says("where it was done, by which panes show it, which pane to look at next;");
        Check.due("not by bay", true, y.say(BAY, false));
        Check.due("from 3 on", 1016, y.where());
        Check.due("shop", SHOP, y.ask());
        Check.due("shop did", true, y.say(SHOP, true));
        Check.due("3 to 5", 56, y.where());
        Check.due("loft", LOFT, y.ask());
    }

    private static void doneAndUndone() {
        GlassStreet x = Check.made(STREET);
        x.does(ANN, STEAL);
        x.does(ANN, KISS);
        FIRST.says("harm by another memory;");
        Check.due("of one mark", 7, x.memory(1));
        Check.due("of two", 47, x.memory(2));
        FIRST.says("where a new pane sees most;");
        Check.due("2 to 5", 2, x.glass(4));
        FIRST.says("who is seen by how many;");
        Check.due("ann by bay and loft", 3, x.seen(ANN));
        Check.due("bob by shop", 4, x.seen(BOB));
        FIRST.says("rents opposite at rest;");
        Check.due("two", 2, x.rests(5, 2, 4, GlassStreet.NONE));
        Check.due("both low", 0, x.rests(5, 2, 4, 0));
        Check.due("both high", 3, x.rests(5, 2, 4, 1));

        FIRST.says("years by draws;");
        GlassStreet y = Check.made(STREET);
        // The draws of 10: ann on, bob kisses, no washing; ann back, bob steals by no light; ann steals, bob on.
        Check.due("deeds in an hour", 1, y.years(10, 1, 0));
        Check.due("in two", 2, y.years(10, 2, 0));
        Check.due("in three", 3, y.years(10, 3, 0));
        Check.due("seen in an hour", 0, y.years(10, 1, 1));
        Check.due("bob's theft was not", 1, y.years(10, 3, 1));
        Check.due("a kiss", 7, y.years(10, 2, 2));
        Check.due("and a theft", 47, y.years(10, 3, 2));

        FIRST.says("and what was done, undone.");
        String before = Check.state(y);
        y.walk(ANN, 3);
        y.does(ANN, KISS);
        y.hour();
        for (int i = 0; i < 3; i++) {
            Check.due("undone", true, y.undo());
        }
        Check.due("all is as ahead", before, Check.state(y));
        Check.due("no more", false, y.undo());
    }

    private static void notPromised() {
        LAST.says("How the state is held inside the object is free, as are the speed of each call, the text of toString and the "
            + "behaviour of equals and hashCode.");
        GlassStreet x = Check.made(STREET);
        GlassStreet y = Check.made(STREET);
        String before = Check.state(x);
        Check.due("they answer what any object's do", true, x.equals(x) && !x.equals(y) && x.toString() != null);
        Check.due("and change nothing", before, Check.state(x));

        LAST.says("Use of one object from several threads at once is not promised to be safe.");
        Check.due("but objects share nothing", 3, y.does(ANN, STEAL));
        y.curtain(BAY);
        y.say(BAY, true);
        y.hour();
        Check.day(y, "hour ;");
        Check.feed(y, "light");
        Check.due("the other stays", before, Check.state(x));

        LAST.says("Nothing is promised beyond the answers and state changes described above, "
            + "and nothing about an object after its 512th call.");
        Check.due("later calls answer, whatever it be", true, isAnswering(Check.made(STREET + "fades 0 ;")));
    }

    /** The machine never throws, in whatever state an object is. */
    private static boolean isAnswering(GlassStreet x) {
        for (int i = 0; i < 3000; i++) {
            Check.feed(x, "pane bay plain keeps 2 ;");
            x.does(i % 3, i % 4);
            x.hour();
            x.curtain(i % 5);
            x.wash(i % 7);
            x.say(i % 5, i % 2 == 0);
            x.notch(i % 6, i % 5 == 0);
            x.years(i, i % 100, i % 4);
            x.run(i % 5);
            x.judged(i % 4);
            if (i % 3 == 0) {
                x.undo();
            }
            if (i % 100 == 0) {
                x.street();
                x.day();
                Check.state(x);
            }
        }
        return true;
    }
}
