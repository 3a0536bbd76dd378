/** The document's terms, part 2: what is seen, done, undone, shown and judged; each sentence at its edges. */
public final class StreetEdgeTest {
    private static final Doc DOC = Doc.part("==== 2.", "==== 3.");
    /** One pane that sees where one person stands, and keeps all. */
    private static final String ONE = "pane p plain keeps 6 sees 0 ; person a at 0 ; deed d harm 1 ; deed e harm 20 ; ";

    public static void main(String[] args) {
        seeing();
        mirrors();
        walking();
        doing();
        full();
        washing();
        curtains();
        stones();
        hours();
        fading();
        undoing();
        showing();
        shaming();
        judging();
        DOC.end();
        Check.end();
    }

    private static void seeing() {
        DOC.says("A PANE that is whole, its curtain open, SEES a CELL that it sees as told");
        String[] kinds = {"plain", "frosted", "thick", "mirror"};
        for (String kind : kinds) {
            GlassStreet x = Check.made("pane p " + kind + " keeps 1 sees 0 9 ; person a at 0 ; deed d harm 1 ;");
            Check.due(kind + " sees", 513, x.pane(0, 5));
            Check.due("the deed", 1, x.does(0, 0));
            x.curtain(0);
            Check.due(kind + " drawn", 0, x.pane(0, 5));
            Check.due("no deed", 0, x.does(0, 0));
            x.curtain(0);
            Check.due(kind + " open again", 513, x.pane(0, 5));
            x.stone(0);
            Check.due(kind + " no more", 0, x.pane(0, 5));
            Check.due("no deed", 0, x.does(0, 0));
            Check.due("one mark", 1, x.count(5));
            GlassStreet y = Check.made("pane p " + kind + " keeps 1 sees 0 9 ;");
            y.curtain(0);
            y.stone(0);
            Check.due(kind + " drawn and no more", 0, y.pane(0, 5));
        }
        DOC.says("by no light a thick one does not");
        for (String kind : kinds) {
            GlassStreet x = Check.made("pane p " + kind + " keeps 1 sees 0 9 ; person a at 0 ; deed d harm 1 ; light 0 1 ;");
            boolean isThick = kind.equals("thick");
            Check.due(kind + " by no light", isThick ? 0 : 513, x.pane(0, 5));
            Check.due("the deed", isThick ? 0 : 1, x.does(0, 0));
            x.hour();
            Check.due(kind + " by light", 513, x.pane(0, 5));
            Check.due("the deed", 1, x.does(0, 0));
            x.hour();
            Check.due("its mark stays", 1, x.pane(0, 2));
            Check.due("and is shown", 1, x.harm());
        }
    }

    private static void mirrors() {
        DOC.says("a mirror SEES it the other way round, too: CELL c if it sees 9 - c as told.");
        for (int cell = 0; cell < 10; cell++) {
            GlassStreet x = Check.made("pane m mirror keeps 1 sees " + cell + " ; pane p plain keeps 1 sees " + cell + " ; "
                + "person a at " + (9 - cell) + " ; deed d harm 1 ;");
            Check.due("a mirror of " + cell, 1 << cell | 1 << 9 - cell, x.pane(0, 5));
            Check.due("a plain one of " + cell, 1 << cell, x.pane(1, 5));
            Check.due("a deed at " + (9 - cell), 1, x.does(0, 0));
            Check.due("its cell is where it was done", 9 - cell, x.shown(0, 0, 2));
        }
        Check.due("all", 1023, Check.made("pane m mirror keeps 1 sees 0 1 2 3 4 ;").pane(0, 5));
        Check.due("all told", 1023, Check.made("pane m mirror keeps 1 sees 0 1 2 3 4 5 6 7 8 9 ;").pane(0, 5));
        Check.due("by no light, too", 513, Check.made("pane m mirror keeps 1 sees 9 ; light 0 ;").pane(0, 5));
    }

    private static void walking() {
        DOC.says("WALK: a PERSON to the next CELL, one more or one less (0 to 9).");
        for (int from = 0; from < 10; from++) {
            for (int to = -3; to < 13; to++) {
                GlassStreet x = Check.made("person a at " + from + " ;");
                boolean can = to >= 0 && to <= 9 && (to == from + 1 || to == from - 1);
                Check.due("from " + from + " to " + to, can, x.walk(0, to));
                Check.due("he is at", can ? to : from, x.person(0));
                Check.due("to be undone", can ? 1 : 0, x.count(10));
            }
        }
        GlassStreet x = Check.made("person a at 0 ; person b at 0 ;");
        for (int to = 1; to <= 9; to++) {
            Check.due("on to " + to, true, x.walk(1, to));
        }
        Check.due("the other stays", 0, x.person(0));
        Check.due("not on to 10", false, x.walk(1, 10));
        Check.due("not round to 0", false, x.walk(1, 0));
        Check.due("not round to 9", false, x.walk(0, 9));
    }

    private static void doing() {
        DOC.says("DO: a PERSON does a DEED in his CELL: each PANE, by numbers, that SEES it has a MARK of him, the DEED, the CELL, "
            + "of age 0, as its newest");
        GlassStreet x = Check.made("pane o plain keeps 2 sees 8 ; pane p plain keeps 2 sees 9 ; pane q plain keeps 2 sees 8 9 ; "
            + "person a at 0 ; person b at 1 ; person c at 2 ; person g at 3 ; person h at 9 ; "
            + "deed d harm 1 ; deed e harm 2 ; deed f harm 3 ; deed i harm 4 ; deed j harm 5 ;");
        Check.due("seen by two", 6, x.does(4, 4));
        Check.due("not by o", "", Check.marks(x, 0));
        Check.due("by p", "4490", Check.marks(x, 1));
        Check.due("by q", "4490", Check.marks(x, 2));
        x.hour();
        Check.due("walks", true, x.walk(4, 8));
        Check.due("seen by two others", 5, x.does(4, 0));
        Check.due("by o", "4080", Check.marks(x, 0));
        Check.due("p's own is an hour old", "4491", Check.marks(x, 1));
        Check.due("q's newest is behind the older", "4491 4080", Check.marks(x, 2));
        Check.due("seen by none", 0, x.does(0, 0));
        Check.due("which can be undone, too", 4, x.count(10) - 1);
        Check.due("no new mark", 4, x.count(5));
        GlassStreet all = Check.made("person a at 0 ; deed d harm 1 ;" + "pane %s plain keeps 6 sees 0 ; ".repeat(6)
            .formatted("p", "q", "r", "s", "t", "u"));
        Check.due("seen by six", 63, all.does(0, 0));
        Check.due("a mark in each", 6, all.count(5));
    }

    private static void full() {
        DOC.says("if it has as many as it keeps its oldest is gone ahead of that.");
        for (int keeps = 1; keeps <= 6; keeps++) {
            GlassStreet x = Check.made("pane p plain keeps " + keeps + " sees 0 ; person a at 0 ; deed d harm 1 ; deed e harm 2 ; "
                + "deed f harm 3 ; deed g harm 4 ; deed h harm 5 ;");
            StringBuilder done = new StringBuilder();
            for (int i = 0; i < 13; i++) {
                int deed = i * i % 5;
                Check.due("keeps " + keeps + ", deed " + i, 1, x.does(0, deed));
                done.append(done.length() == 0 ? "" : " ").append("0").append(deed).append("00");
                int begin = Math.max(0, done.length() - (5 * keeps - 1));
                Check.due("its marks", done.substring(begin), Check.marks(x, 0));
                Check.due("how many", Math.min(i + 1, keeps), x.pane(0, 2));
            }
        }
        GlassStreet y = Check.made("pane p plain keeps 1 sees 0 ; pane q plain keeps 2 sees 0 ; person a at 0 ; deed d harm 1 ; deed e harm 2 ;");
        y.does(0, 0);
        y.does(0, 1);
        Check.due("p is full", "0100", Check.marks(y, 0));
        Check.due("q is not", "0000 0100", Check.marks(y, 1));
        y.wash(0);
        Check.due("none is gone behind a washing", "", Check.marks(y, 0));
        y.does(0, 0);
        Check.due("room for one", "0000", Check.marks(y, 0));
    }

    private static void washing() {
        DOC.says("WASH a PANE that is whole: its newest MARK is gone.");
        GlassStreet x = Check.made(ONE);
        Check.due("empty", -1, x.wash(0));
        x.does(0, 0);
        x.hour();
        x.does(0, 1);
        Check.due("one left", 1, x.wash(0));
        Check.due("the older", "0001", Check.marks(x, 0));
        Check.due("none left", 0, x.wash(0));
        Check.due("empty again", -1, x.wash(0));
        Check.due("what was refused is not to be undone", 5, x.count(10));
        x.does(0, 0);
        x.curtain(0);
        Check.due("behind a curtain, too", 0, x.wash(0));
        x.curtain(0);
        x.does(0, 0);
        x.stone(0);
        String before = Check.state(x);
        Check.due("no more", -1, x.wash(0));
        Check.due("nothing changed", before, Check.state(x));
    }

    private static void curtains() {
        DOC.says("CURTAIN of a PANE that is whole: drawn, or open if it is drawn.");
        GlassStreet x = Check.made(ONE + "pane q plain keeps 1 sees 0 ;");
        for (int i = 0; i < 5; i++) {
            Check.due("drawn", true, x.curtain(1));
            Check.due("bits", 2, x.count(6));
            Check.due("it is", 1, x.pane(1, 3));
            Check.due("the other is not", 0, x.pane(0, 3));
            Check.due("open", true, x.curtain(1));
            Check.due("bits", 0, x.count(6));
        }
        x.stone(1);
        String before = Check.state(x);
        Check.due("no more", false, x.curtain(1));
        Check.due("nothing changed", before, Check.state(x));
    }

    private static void stones() {
        DOC.says("STONE at a PANE that is whole: it is no more; its MARKS stay (what it shows is known by all, for good).");
        GlassStreet x = Check.made("pane p frosted keeps 2 sees 0 ; person a at 0 ; deed d harm 1 ; deed e harm 20 ;");
        x.does(0, 0);
        x.hour();
        x.does(0, 1);
        x.curtain(0);
        Check.due("behind its curtain nothing", "", Check.marks(x, 0));
        Check.due("a stone", true, x.stone(0));
        Check.due("all is shown, who too", "0001 0100", Check.marks(x, 0));
        Check.due("it is no more", 1, x.pane(0, 4));
        Check.due("not again", false, x.stone(0));
        Check.due("no curtain", false, x.curtain(0));
        Check.due("no washing", -1, x.wash(0));
        Check.due("no deed is seen", 0, x.does(0, 0));
        for (int i = 0; i < 30; i++) {
            Check.due("none fades", 0, x.hour());
        }
        Check.due("for good", "0001 0100", Check.marks(x, 0));
        Check.due("by harm", 21, x.harm());
        GlassStreet empty = Check.made(ONE);
        Check.due("a stone at an empty one", true, empty.stone(0));
        Check.due("no marks", 0, empty.count(5));
    }

    private static void hours() {
        DOC.says("HOUR: each MARK of a whole PANE is an hour older");
        GlassStreet x = Check.made("pane p plain keeps 6 sees 0 ; pane q plain keeps 6 sees 0 ; pane r plain keeps 6 sees 0 ; "
            + "person a at 0 ; deed d harm 1 ; fades 0 ;");
        x.does(0, 0);
        x.curtain(1);
        x.stone(2);
        for (int hour = 1; hour <= 20; hour++) {
            Check.due("none fades", 0, x.hour());
            Check.due("older", hour, x.shown(0, 0, 3));
            Check.due("not the broken one's", 0, x.shown(2, 0, 3));
        }
        x.curtain(1);
        Check.due("behind a curtain, too", 20, x.shown(1, 0, 3));
        GlassStreet y = Check.made(ONE + "fades age = 1 ;");
        y.does(0, 0);
        Check.due("it is older ahead of the law", 1, y.hour());
    }

    private static void fading() {
        DOC.says("then, by PANES, from the oldest, each for which the E of fades is not 0 is gone (newer as it stands then).");
        GlassStreet x = Check.made(ONE + "fades newer < 3 ;");
        for (int i = 0; i < 6; i++) {
            x.does(0, i % 2);
        }
        Check.due("the three newest", 3, x.hour());
        Check.due("the three oldest are left, and have now fewer newer ones", "0001 0101 0001", Check.marks(x, 0));
        Check.due("which are all gone in the next", 3, x.hour());
        Check.due("none", 0, x.count(5));
        GlassStreet y = Check.made(ONE + "fades newer = 1 or newer = 3 ;");
        for (int i = 0; i < 6; i++) {
            y.does(0, i % 2);
        }
        Check.due("two of six: one that is gone is older than those behind it", 2, y.hour());
        Check.due("which", "0001 0101 0101 0101", Check.marks(y, 0));
        GlassStreet full = Check.made("person a at 0 ; deed d harm 1 ; fades 1 ; " + "pane %s plain keeps 6 sees 0 ; ".repeat(6)
            .formatted("p", "q", "r", "s", "t", "u"));
        for (int i = 0; i < 6; i++) {
            full.does(0, 0);
        }
        full.stone(0);
        Check.due("all of five panes", 30, full.hour());
        Check.due("the broken one's stay", 6, full.count(5));
        Check.due("none is left to fade", 0, full.hour());
        GlassStreet negative = Check.made(ONE + "fades 0 - 1 ;");
        negative.does(0, 0);
        Check.due("less than 0 is not 0", 1, negative.hour());
        DOC.says("It is the next hour.");
        GlassStreet z = Check.made("light 1 0 ;");
        for (int hour = 0; hour < 120; hour++) {
            Check.due("the hour", hour, z.count(3));
            Check.due("its light", 1 - hour % 2, z.count(4));
            Check.due("nothing fades", 0, z.hour());
        }
    }

    private static void undoing() {
        DOC.says("UNDO: all of these, the last 16, one by one.");
        Check.due("nothing at first", false, Check.made(ONE).undo());
        GlassStreet x = Check.made(ONE);
        for (int i = 0; i < 7; i++) {
            Check.due("done", true, does(x, i));
        }
        for (int i = 6; i >= 0; i--) {
            GlassStreet other = Check.made(ONE);
            for (int j = 0; j < i; j++) {
                does(other, j);
            }
            Check.due("undone", true, x.undo());
            Check.due("as ahead of " + i, Check.state(other), Check.state(x));
        }
        Check.due("nothing is left", false, x.undo());
        GlassStreet y = Check.made(ONE);
        for (int hour = 1; hour <= 37; hour++) {
            y.hour();
            Check.due("16 at most", Math.min(hour, 16), y.count(10));
        }
        for (int i = 0; i < 10; i++) {
            Check.due("undone", true, y.undo());
        }
        Check.due("the hour", 27, y.count(3));
        for (int i = 0; i < 4; i++) {
            y.hour();
        }
        Check.due("6 and 4", 10, y.count(10));
        for (int i = 0; i < 10; i++) {
            Check.due("undone", true, y.undo());
        }
        Check.due("no more than 16 back from the farthest", 21, y.count(3));
        Check.due("the 17th is not", false, y.undo());
        Check.due("nothing changed", 21, y.count(3));
        y.hour();
        Check.due("an undoing is not undone", true, y.undo());
        Check.due("once", false, y.undo());
        GlassStreet z = Check.made(ONE);
        z.hour();
        z.walk(0, 5);
        z.does(0, 7);
        z.wash(0);
        z.curtain(1);
        z.stone(1);
        z.say(0, true);
        z.notch(0, false);
        Check.due("what was refused, said or notched is not counted", 1, z.count(10));
        GlassStreet faded = Check.made(ONE + "fades 1 ;");
        for (int i = 0; i < 6; i++) {
            faded.does(0, i % 2);
        }
        String marks = Check.marks(faded, 0);
        Check.due("six fade", 6, faded.hour());
        Check.due("undone", true, faded.undo());
        Check.due("all six are back", marks, Check.marks(faded, 0));
        faded.does(0, 0);
        Check.due("undone", true, faded.undo());
        Check.due("the oldest is back where one too many came", marks, Check.marks(faded, 0));
    }

    /** One of each, the i-th of seven. */
    private static boolean does(GlassStreet x, int i) {
        return switch (i) {
            case 0 -> x.does(0, 0) == 1;
            case 1 -> x.hour() == 0;
            case 2 -> x.does(0, 1) == 1;
            case 3 -> x.walk(0, 1);
            case 4 -> x.wash(0) == 1;
            case 5 -> x.curtain(0);
            default -> x.stone(0);
        };
    }

    private static void showing() {
        DOC.says("SHOWN: the MARKS of a PANE whose curtain is open, or that is no more, the oldest first");
        GlassStreet x = Check.made(ONE);
        Check.due("none", "", Check.marks(x, 0));
        x.does(0, 0);
        x.hour();
        x.does(0, 1);
        x.hour();
        x.does(0, 0);
        Check.due("the oldest first", "0002 0101 0000", Check.marks(x, 0));
        Check.due("no fourth", -2, x.shown(0, 3, 1));
        x.curtain(0);
        Check.due("drawn", "", Check.marks(x, 0));
        x.stone(0);
        Check.due("no more", "0002 0101 0000", Check.marks(x, 0));
        DOC.says("a frosted one that is whole does not show who it was.");
        GlassStreet y = Check.made("pane p frosted keeps 6 sees 0 ; person a at 0 ; deed d harm 1 ;");
        y.does(0, 0);
        Check.due("not who", "?000", Check.marks(y, 0));
        Check.due("no shame", 0, y.shame(0));
        y.stone(0);
        Check.due("who", "0000", Check.marks(y, 0));
        Check.due("shame", 1, y.shame(0));
    }

    private static void shaming() {
        DOC.says("SHAME of a PERSON: the harm of all unlike DEEDS that are SHOWN of him by some PANE, together.");
        GlassStreet x = Check.made("pane p plain keeps 6 sees 0 ; pane q plain keeps 6 sees 0 ; pane f frosted keeps 6 sees 0 1 ; "
            + "person a at 0 ; person b at 1 ; deed d harm 99 ; deed e harm 99 ; deed g harm 99 ; deed h harm 99 ; deed i harm 99 ;");
        Check.due("none", 0, x.shame(0));
        for (int deed = 0; deed < 5; deed++) {
            x.does(0, deed);
            x.does(1, deed);
            Check.due("unlike deeds of like harm, each once", 99 * (deed + 1), x.shame(0));
            Check.due("not b's, whom a frosted one sees alone", 0, x.shame(1));
        }
        x.does(0, 0);
        Check.due("once, by two panes and twice by each", 495, x.shame(0));
        x.curtain(0);
        Check.due("by the other", 495, x.shame(0));
        x.curtain(1);
        Check.due("behind curtains none", 0, x.shame(0));
        x.stone(2);
        Check.due("b's last three are known", 297, x.shame(1));
        GlassStreet zero = Check.made("pane p plain keeps 6 sees 0 ; person a at 0 ; deed d harm 0 ;");
        zero.does(0, 0);
        Check.due("a deed of no harm", 0, zero.shame(0));
        DOC.says("HARM: the harm of all unlike DEEDS that are SHOWN (by whom ever), together.");
        Check.due("b's marks that a broken one shows", 396, x.harm());
        x.curtain(0);
        Check.due("all five", 495, x.harm());
        GlassStreet y = Check.made("pane p frosted keeps 6 sees 0 ; person a at 0 ; person b at 0 ; deed d harm 7 ; deed e harm 8 ;");
        Check.due("none", 0, y.harm());
        y.does(0, 0);
        y.does(1, 0);
        Check.due("of two people once, by a frosted one too", 7, y.harm());
        y.does(1, 1);
        Check.due("together", 15, y.harm());
        y.curtain(0);
        Check.due("behind a curtain none", 0, y.harm());
    }

    private static void judging() {
        DOC.says("JUDGED: the DAY from the begin");
        GlassStreet x = Check.made(ONE + "light 1 0 ;");
        x.walk(0, 1);
        x.hour();
        x.curtain(0);
        String before = Check.state(x);
        Check.due("a day", 0, Check.day(x, "walk a 1 ; walk a 0 ; does a d ; wash p ; does a e ;"));
        Check.due("all can be, at the begin", -1, x.judged(0));
        Check.due("all is seen, at the begin", -1, x.judged(1));
        Check.due("harm", 20, x.judged(2));
        Check.due("the same again", 20, x.judged(2));
        Check.due("no day, as ahead", 0, x.day());
        Check.due("nothing else changed", before, Check.state(x));
        x.stone(0);
        Check.due("a day", 0, Check.day(x, "stone p ;"));
        Check.due("whole at the begin", -1, x.judged(0));
        DOC.says("the first line (from 0) that can't be (does, hour always can; lines that can't be are left out)");
        judged("", -1, -1, 0);
        judged("wash p ;", 0, -1, 0);
        judged("does a d ; wash p ; wash p ; wash p ;", 2, -1, 0);
        judged("hour ;".repeat(39) + "wash p ;", 39, -1, 0);
        judged("hour ;".repeat(40), -1, -1, 0);
        judged("does a d ;".repeat(40), -1, -1, 1);
        judged("walk a 0 ; does a d ;", 0, -1, 1);
        judged("walk a 2 ; does a d ;", 0, -1, 1);
        judged("walk a 1 ; walk a 3 ; walk a 2 ; walk a 1 ; walk a 0 ; does a d ;", 1, -1, 1);
        judged("stone p ; stone p ;", 1, -1, 0);
        judged("stone p ; curtain p ;", 1, -1, 0);
        judged("does a d ; stone p ; wash p ;", 2, -1, 1);
        judged("does a d ; stone p ; hour ;" + "hour ;".repeat(20), -1, -1, 1);
        judged("curtain p ; curtain p ; does a d ;", -1, -1, 1);
        DOC.says("the first line by which a DEED was done that no PANE SAW");
        judged("walk a 1 ; does a d ;", -1, 1, 0);
        judged("curtain p ; does a d ; does a e ;", -1, 1, 0);
        judged("stone p ; hour ; does a d ;", -1, 2, 0);
        judged("walk a 1 ;" + "hour ;".repeat(38) + "does a d ;", -1, 39, 0);
        judged("does a d ; walk a 1 ; does a e ;", -1, 2, 1);
        DOC.says("HARM at last.");
        judged("does a d ; does a e ;", -1, -1, 21);
        judged("does a d ; does a e ; wash p ;", -1, -1, 1);
        judged("does a d ; does a e ; curtain p ;", -1, -1, 0);
        judged("does a d ;" + "hour ;".repeat(8), -1, -1, 1);
        judged("does a d ;" + "hour ;".repeat(9), -1, -1, 0);
    }

    private static void judged(String day, int refused, int unseen, int harm) {
        GlassStreet x = Check.made(ONE);
        Check.due("day of " + day, 0, Check.day(x, day));
        Check.due("what can't be of " + day, refused, x.judged(0));
        Check.due("what none saw of " + day, unseen, x.judged(1));
        Check.due("harm of " + day, harm, x.judged(2));
    }
}
