/** Promises 1, 5 to 14, 40 and 41: what is done by hand, undone and kept. */
public final class HandTest {
    private static final String STREET = "pane bay plain keeps 2 sees 0 1 2 ; pane loft frosted keeps 3 sees 2 3 ; "
        + "pane shop thick keeps 1 sees 3 4 5 ; pane hall mirror keeps 2 sees 9 ; person ann at 2 ; person bob at 5 ; "
        + "deed steal harm 40 ; deed kiss harm 7 ; light 1 0 ; ";
    private static final int[] OTHERS = {-1, -2, 6, 64, Integer.MAX_VALUE, Integer.MIN_VALUE};

    public static void main(String[] args) {
        newObject();
        panes();
        walks();
        doings();
        washings();
        curtains();
        stones();
        hours();
        undoings();
        notches();
        counts();
        Check.end();
    }

    private static void newObject() {
        GlassStreet x = new GlassStreet();
        for (int what = 0; what <= 11; what++) {
            Check.due("count of a new object, " + what, what == 4 ? 1 : 0, x.count(what));
        }
        Check.due("no pane", -2, x.pane(0, 0));
        Check.due("no person", -1, x.person(0));
        Check.due("no day judged", -1, x.judged(0));
        Check.due("no harm", 0, x.harm());
        Check.due("an hour passes in no street", 0, x.hour());
        Check.due("and is undone", true, x.undo());
        Check.due("once", false, x.undo());
        Check.due("years of nobody", 0, x.years(0, 99, 0) + x.years(9999, 1, 1) + x.years(5, 5, 2));
    }

    private static void panes() {
        GlassStreet x = Check.made(STREET);
        for (int pane = 0; pane < 4; pane++) {
            Check.due("kind", pane, x.pane(pane, 0));
            Check.due("marks", 0, x.pane(pane, 2));
            Check.due("drawn", 0, x.pane(pane, 3));
            Check.due("no more", 0, x.pane(pane, 4));
        }
        Check.due("keeps", 2312, x.pane(0, 1) * 1000 + x.pane(1, 1) * 100 + x.pane(2, 1) * 10 + x.pane(3, 1));
        Check.due("thick by light", 56, x.pane(2, 5));
        x.hour();
        Check.due("thick by none", 0, x.pane(2, 5));
        Check.due("plain by none", 7, x.pane(0, 5));
        Check.due("mirror by none", 513, x.pane(3, 5));
        Check.due("another what", -2, x.pane(0, 6));
        Check.due("another what", -2, x.pane(0, -1));
        Check.due("another pane", -2, x.pane(4, 0));
        for (int other : OTHERS) {
            Check.due("another pane", -2, x.pane(other, 0));
            Check.due("another what", -2, x.pane(0, other));
        }
    }

    private static void walks() {
        GlassStreet x = Check.made("person a at 0 ; person b at 9 ;");
        Check.due("not where he is", false, x.walk(0, 0));
        Check.due("not two on", false, x.walk(0, 2));
        Check.due("not out", false, x.walk(0, -1));
        Check.due("not out", false, x.walk(1, 10));
        Check.due("nobody", false, x.walk(2, 1));
        Check.due("nobody", false, x.walk(-1, 1));
        Check.due("nothing to undo", 0, x.count(10));
        Check.due("on", true, x.walk(0, 1));
        Check.due("there", 1, x.person(0));
        Check.due("back", true, x.walk(0, 0));
        Check.due("there", 0, x.person(0));
        Check.due("back", true, x.walk(1, 8));
        Check.due("there", 8, x.person(1));
        for (int other : OTHERS) {
            Check.due("another cell", false, x.walk(0, other));
            Check.due("another person", false, x.walk(other, 1));
            Check.due("another person's cell", -1, x.person(other));
        }
        Check.due("all but three refused", 3, x.count(10));
    }

    private static void doings() {
        GlassStreet x = Check.made(STREET);
        Check.due("seen by two", 3, x.does(0, 0));
        Check.due("seen by the thick one", 4, x.does(1, 1));
        Check.due("who", 0, x.shown(0, 0, 0));
        Check.due("the deed", 0, x.shown(0, 0, 1));
        Check.due("the cell", 2, x.shown(0, 0, 2));
        Check.due("its age", 0, x.shown(0, 0, 3));
        Check.due("another what", -2, x.shown(0, 0, 4));
        Check.due("another what", -2, x.shown(0, 0, -1));
        Check.due("another mark", -2, x.shown(0, 1, 0));
        Check.due("another mark", -2, x.shown(0, -1, 0));
        Check.due("frosted: not who", -1, x.shown(1, 0, 0));
        Check.due("frosted: the cell", 2, x.shown(1, 0, 2));
        Check.due("bob's", 1, x.shown(2, 0, 0));
        Check.due("kiss", 1, x.shown(2, 0, 1));
        x.walk(0, 1);
        Check.due("kiss at 1", 1, x.does(0, 1));
        x.walk(0, 0);
        Check.due("steal at 0, a mirror sees it, too", 9, x.does(0, 0));
        Check.due("keeps two", 2, x.pane(0, 2));
        Check.due("the oldest is gone", 1, x.shown(0, 0, 2));
        Check.due("the newest", 0, x.shown(0, 1, 2));
        Check.due("the loft kept one", 1, x.pane(1, 2));
        x.hour();
        Check.due("by no light the thick one does not see", 0, x.does(1, 0));
        for (int other : OTHERS) {
            Check.due("another person", -1, x.does(other, 0));
            Check.due("another deed", -1, x.does(0, other));
            Check.due("another pane", -2, x.shown(other, 0, 0));
            Check.due("another mark", -2, x.shown(0, other, 0));
        }
        Check.due("the third of two people", -1, x.does(2, 0));
        Check.due("the third of two deeds", -1, x.does(0, 2));
        Check.due("what was done", 8, x.count(10));
    }

    private static void washings() {
        GlassStreet x = Check.made(STREET);
        Check.due("no mark", -1, x.wash(0));
        x.does(0, 0);
        x.does(0, 1);
        Check.due("the newest is gone", 1, x.wash(0));
        Check.due("the older is there", 0, x.shown(0, 0, 1));
        Check.due("the other pane has both", 2, x.pane(1, 2));
        Check.due("the last", 0, x.wash(0));
        Check.due("no mark", -1, x.wash(0));
        x.curtain(1);
        Check.due("behind a curtain", 1, x.wash(1));
        x.stone(1);
        Check.due("no more", -1, x.wash(1));
        for (int other : OTHERS) {
            Check.due("another pane", -1, x.wash(other));
        }
        Check.due("no fifth pane", -1, x.wash(4));
        Check.due("what was done", 7, x.count(10));
    }

    private static void curtains() {
        GlassStreet x = Check.made(STREET);
        x.does(0, 0);
        Check.due("drawn", true, x.curtain(0));
        Check.due("it is", 1, x.pane(0, 3));
        Check.due("it sees nothing", 0, x.pane(0, 5));
        Check.due("it has its mark", 1, x.pane(0, 2));
        Check.due("which is not shown", -2, x.shown(0, 0, 1));
        Check.due("the other sees alone", 2, x.does(0, 0));
        Check.due("bits", 1, x.count(6));
        Check.due("open", true, x.curtain(0));
        Check.due("it is", 0, x.pane(0, 3));
        Check.due("shown again", 0, x.shown(0, 0, 1));
        x.stone(0);
        Check.due("no more", false, x.curtain(0));
        for (int other : OTHERS) {
            Check.due("another pane", false, x.curtain(other));
            Check.due("another pane", false, x.stone(other));
        }
        Check.due("no fifth", false, x.curtain(4) || x.stone(4));
        Check.due("what was done", 5, x.count(10));
    }

    private static void stones() {
        GlassStreet x = Check.made(STREET);
        x.does(0, 0);
        x.curtain(1);
        Check.due("a stone", true, x.stone(1));
        Check.due("not again", false, x.stone(1));
        Check.due("no more", 1, x.pane(1, 4));
        Check.due("its curtain stays drawn", 1, x.pane(1, 3));
        Check.due("it sees nothing", 0, x.pane(1, 5));
        Check.due("its marks stay", 1, x.pane(1, 2));
        Check.due("shown for good, who too", 0, x.shown(1, 0, 0));
        Check.due("it has no new ones", 1, x.does(0, 1));
        Check.due("bits", 2, x.count(7));
        for (int i = 0; i < 12; i++) {
            x.hour();
        }
        Check.due("no older", 0, x.shown(1, 0, 3));
        Check.due("nothing of it fades", 1, x.pane(1, 2));
        Check.due("the other's are gone", 0, x.pane(0, 2));
    }

    private static void hours() {
        GlassStreet x = Check.made("pane p plain keeps 6 sees 0 ; pane q plain keeps 6 sees 0 ; person x at 0 ; "
            + "deed a harm 3 ; deed b harm 9 ; light 1 0 ; fades bad < age + newer * 2 ;");
        x.does(0, 0);
        x.does(0, 1);
        x.does(0, 0);
        x.curtain(1);
        Check.due("one of each, behind a curtain too", 2, x.hour());
        Check.due("p has b, a", 10, x.shown(0, 0, 1) * 10 + x.shown(0, 1, 1));
        Check.due("an hour older", 1, x.shown(0, 0, 3));
        Check.due("the hour", 1, x.count(3));
        Check.due("its light", 0, x.count(4));
        Check.due("none", 0, x.hour() + x.hour());
        Check.due("a", 2, x.hour());
        Check.due("b is 4", 4, x.shown(0, 0, 3));
        GlassStreet y = Check.made("pane p plain keeps 3 sees 0 ; person x at 0 ; deed a harm 1 ; fades newer < 2 ;");
        y.does(0, 0);
        y.does(0, 0);
        y.does(0, 0);
        Check.due("newer as it stands then: 2, 1, 0", 2, y.hour());
        GlassStreet z = Check.made("pane p plain keeps 3 sees 0 ; person x at 0 ; deed a harm 1 ; fades newer ;");
        z.does(0, 0);
        z.hour();
        z.does(0, 0);
        z.does(0, 0);
        Check.due("all that have newer ones", 2, z.hour());
        Check.due("the newest is left", 1, z.shown(0, 0, 3));
        GlassStreet lit = Check.made("pane p plain keeps 3 sees 0 ; person x at 0 ; deed a harm 1 ; light 0 1 ; fades lit ;");
        lit.does(0, 0);
        Check.due("the hour that passes is dark", 0, lit.hour());
        Check.due("the hour that passes is lit", 1, lit.hour());
    }

    private static void undoings() {
        GlassStreet x = Check.made(STREET);
        x.walk(0, 1);
        x.does(0, 0);
        x.hour();
        x.say(0, true);
        x.wash(0);
        x.curtain(0);
        x.stone(0);
        Check.due("six", 6, x.count(10));
        Check.due("the stone", true, x.undo());
        Check.due("whole", 0, x.count(7));
        Check.due("the curtain", true, x.undo());
        Check.due("open", 0, x.count(6));
        Check.due("the washing", true, x.undo());
        Check.due("its mark", 1, x.shown(0, 0, 3));
        Check.due("the hour", true, x.undo());
        Check.due("hour 0", 0, x.count(3));
        Check.due("its age", 0, x.shown(0, 0, 3));
        Check.due("the deed", true, x.undo());
        Check.due("no mark", 0, x.count(5));
        Check.due("the walk", true, x.undo());
        Check.due("home", 2, x.person(0));
        Check.due("no more", false, x.undo());
        Check.due("what is said stays", 1, x.count(9));
        for (int i = 0; i < 20; i++) {
            x.hour();
            Check.due("the last 16", Math.min(i + 1, 16), x.count(10));
        }
        for (int i = 0; i < 16; i++) {
            Check.due("one by one", true, x.undo());
            Check.due("the hour", 19 - i, x.count(3));
        }
        Check.due("no 17th", false, x.undo());
        x.walk(0, 3);
        x.day();
        Check.due("a day leaves what can be undone", 1, x.count(10));
        Check.due("undone", true, x.undo());
        Check.due("home", 2, x.person(0));
    }

    private static void notches() {
        GlassStreet x = Check.made(STREET);
        for (int other : new int[] {-1, 4, 99, Integer.MIN_VALUE}) {
            Check.due("none such", false, x.notch(other, false) || x.notch(other, true));
        }
        for (int notch = 0; notch < 4; notch++) {
            Check.due("nothing on it", false, x.notch(notch, true));
        }
        x.does(0, 0);
        x.say(1, true);
        Check.due("laid", true, x.notch(3, false));
        Check.due("laying undoes nothing", 1, x.count(10));
        x.hour();
        x.does(0, 1);
        x.walk(0, 3);
        x.curtain(0);
        x.stone(1);
        x.say(1, false);
        x.say(2, false);
        Check.day(x, "hour ;");
        Check.due("laid", true, x.notch(0, false));
        Check.due("back", true, x.notch(3, true));
        Check.due("the hour", 0, x.count(3));
        Check.due("the cell", 2, x.person(0));
        Check.due("marks", 2, x.count(5));
        Check.due("curtains", 0, x.count(6));
        Check.due("panes", 0, x.count(7));
        Check.due("said", 1, x.count(9));
        Check.due("as it was", 12, x.where());
        Check.due("nothing can be undone", 0, x.count(10));
        Check.due("nothing", false, x.undo());
        Check.due("the day stays", 1, x.count(8));
        Check.due("on to the other", true, x.notch(0, true));
        Check.due("the hour", 1, x.count(3));
        Check.due("the cell", 3, x.person(0));
        Check.due("curtains", 1, x.count(6));
        Check.due("panes", 2, x.count(7));
        Check.due("said", 2, x.count(9));
        Check.due("a notch stays", true, x.notch(3, true));
        Check.due("the hour", 0, x.count(3));
        Check.due("laid anew", true, x.notch(0, false));
        Check.due("back to it", true, x.notch(0, true));
        Check.due("the hour", 0, x.count(3));
        Check.due("nothing on it", false, x.notch(1, true));
    }

    private static void counts() {
        GlassStreet x = Check.made(STREET);
        Check.due("panes, people, deeds", 422, x.count(0) * 100 + x.count(1) * 10 + x.count(2));
        x.does(0, 0);
        x.does(1, 0);
        x.curtain(0);
        x.curtain(3);
        x.stone(2);
        Check.due("marks of all, shown or not", 3, x.count(5));
        Check.due("curtains as bits", 9, x.count(6));
        Check.due("no more, as bits", 4, x.count(7));
        x.say(0, true);
        x.say(0, false);
        x.say(3, false);
        Check.due("panes of which something is said", 2, x.count(9));
        Check.due("what can be undone", 5, x.count(10));
        Check.feed(x, "hour ; ");
        Check.due("signs", 7, x.count(11));
        Check.due("another", -1, x.count(12));
        Check.due("another", -1, x.count(-1));
        Check.due("another", -1, x.count(Integer.MIN_VALUE));
    }
}
