import java.util.NoSuchElementException;

/** The document's terms, part 3: what is asked of a street; each sentence at its edges. */
public final class AskedEdgeTest {
    private static final Doc DOC = Doc.part("==== 3.", "The constants:");
    private static final String DEEDS = "deed d harm 1 ; deed e harm 2 ; deed f harm 4 ; deed g harm 8 ; deed h harm 16 ; ";
    /** Six panes, each of which sees one cell, 0 to 5, and a person at 0. */
    private static final String ROW = "pane p plain keeps 6 sees 0 ; pane q plain keeps 6 sees 1 ; pane r plain keeps 6 sees 2 ; "
        + "pane s plain keeps 6 sees 3 ; pane t plain keeps 6 sees 4 ; pane u plain keeps 6 sees 5 ; person a at 0 ; person b at 0 ; "
        + DEEDS;
    /** Six panes that all see 0, where two people are. */
    private static final String SIX = ROW.replaceAll("sees \\d", "sees 0");

    public static void main(String[] args) {
        hiding();
        proving();
        washing();
        darkening();
        saying();
        asking();
        remembering();
        standing();
        watching();
        trails();
        worst();
        oldest();
        cloaking();
        twins();
        running();
        rents();
        draws();
        years();
        washings();
        notches();
        DOC.end();
        Check.end();
    }

    private static String cells(int bits) {
        StringBuilder all = new StringBuilder();
        for (int cell = 0; cell < 10; cell++) {
            all.append((bits >> cell & 1) != 0 ? cell + " " : "");
        }
        return all.toString();
    }

    private static void hiding() {
        DOC.says("HIDE of a PERSON: the fewest steps to a CELL that no PANE SEES now");
        for (int from = 0; from < 10; from++) {
            for (int dark = 0; dark < 10; dark++) {
                GlassStreet x = Check.made("pane p plain keeps 1 sees " + cells(1023 & ~(1 << dark)) + "; person a at " + from + " ;");
                Check.due("steps from " + from + " to " + dark, Math.abs(from - dark), x.hide(0, 0));
                Check.due("the cell", dark, x.hide(0, 1));
            }
        }
        GlassStreet x = Check.made("pane p plain keeps 1 sees 0 1 2 3 4 ; pane m mirror keeps 1 sees 5 6 7 8 9 ; person a at 4 ;");
        Check.due("none", -1, x.hide(0, 0));
        Check.due("none", -1, x.hide(0, 1));
        Check.due("six panes", 6, Check.made(ROW).hide(0, 1));
        x.curtain(1);
        Check.due("now one", 1, x.hide(0, 0));
        x.curtain(0);
        Check.due("now all: no step", 0, x.hide(0, 0));
        Check.due("where he is", 4, x.hide(0, 1));
        GlassStreet thick = Check.made("pane p thick keeps 1 sees 0 1 2 3 4 5 6 7 8 9 ; person a at 4 ; light 1 0 ;");
        Check.due("by light none", -1, thick.hide(0, 1));
        thick.hour();
        Check.due("by no light where he is", 4, thick.hide(0, 1));
        DOC.says("of equal ones the lesser CELL.");
        for (int from = 1; from < 9; from++) {
            for (int steps = 1; from - steps >= 0 && from + steps <= 9; steps++) {
                GlassStreet y = Check.made("pane p plain keeps 1 sees " + cells(1023 & ~(1 << from - steps | 1 << from + steps))
                    + "; person a at " + from + " ;");
                Check.due("of two, " + steps + " from " + from, from - steps, y.hide(0, 1));
                Check.due("steps", steps, y.hide(0, 0));
            }
        }
    }

    /** Ann's walk along the row of panes, doing the deed i before the pane i. */
    private static GlassStreet walked(String street, int deeds) {
        GlassStreet x = Check.made(street);
        for (int i = 0; i < deeds; i++) {
            x.does(0, i);
            x.walk(0, i + 1);
        }
        return x;
    }

    private static void proving() {
        DOC.says("PROOF of a PERSON of some DEEDS: the fewest PANES by which all these are SHOWN of him");
        GlassStreet x = walked(ROW, 5);
        for (int deeds = 0; deeds < 32; deeds++) {
            Check.due("each deed by its pane", deeds, x.proof(0, deeds));
            Check.due("none of the other person", deeds == 0 ? 0 : -1, x.proof(1, deeds));
        }
        GlassStreet one = walked(ROW.replace("sees 5", "sees 0 1 2 3 4"), 5);
        Check.due("all by one", 32, one.proof(0, 31));
        Check.due("two by the same one", 32, one.proof(0, 3));
        Check.due("one: the least set", 1, one.proof(0, 1));
        GlassStreet three = walked(ROW.replace("keeps 6 sees 5", "keeps 3 sees 0 1 2 3 4"), 5);
        Check.due("the two that it has lost by their own", 35, three.proof(0, 31));
        GlassStreet frosted = walked(ROW.replace("plain keeps 6 sees 5", "frosted keeps 6 sees 0 1 2 3 4"), 5);
        Check.due("frosted: it proves none", 31, frosted.proof(0, 31));
        frosted.stone(5);
        Check.due("broken: all", 32, frosted.proof(0, 31));
        x.curtain(3);
        Check.due("behind a curtain by none", -1, x.proof(0, 31));
        Check.due("the others", 7, x.proof(0, 7));
        x.stone(3);
        Check.due("no more, it is shown", 31, x.proof(0, 31));
        DOC.says("of equal ones the least set (bits).");
        GlassStreet y = Check.made(SIX);
        y.does(0, 0);
        y.does(0, 1);
        for (int pane = 0; pane < 6; pane++) {
            Check.due("the first that is open", 1 << pane, y.proof(0, 3));
            y.curtain(pane);
        }
        Check.due("none", -1, y.proof(0, 3));
        GlassStreet z = walked("pane p plain keeps 6 sees 0 ; pane q plain keeps 6 sees 1 ; pane r plain keeps 6 sees 0 ; "
            + "pane s plain keeps 6 sees 1 ; person a at 0 ; " + DEEDS, 2);
        Check.due("of four pairs", 3, z.proof(0, 3));
        z.curtain(0);
        Check.due("6 ahead of 12", 6, z.proof(0, 3));
        z.curtain(0);
        z.curtain(1);
        Check.due("9 ahead of 12", 9, z.proof(0, 3));
    }

    private static void washing() {
        DOC.says("WASHES: the fewest WASHINGS, of whole PANES, by which no whole PANE has a MARK of a PERSON and a DEED any more.");
        GlassStreet x = Check.made(SIX);
        Check.due("none", 0, x.washes(0, 0));
        x.does(0, 0);
        for (int more = 0; more < 5; more++) {
            Check.due("all that is newer goes with it", 6 * (more + 1), x.washes(0, 0));
            x.does(more % 2, more % 2 == 0 ? 1 : 0);
        }
        Check.due("full: 36", 36, x.washes(0, 0));
        Check.due("the oldest of the other", 24, x.washes(1, 0));
        for (int pane = 0; pane < 5; pane++) {
            x.stone(pane);
            Check.due("of whole ones alone", 6 * (5 - pane), x.washes(0, 0));
        }
        x.curtain(5);
        Check.due("behind a curtain, too", 6, x.washes(0, 0));
        for (int left = 5; left >= 0; left--) {
            Check.due("one less", left, x.wash(5) >= 0 ? x.washes(0, 0) : -9);
        }
        x.curtain(5);
        x.does(0, 0);
        x.stone(5);
        Check.due("none is whole", 0, x.washes(0, 0));
        GlassStreet full = Check.made(SIX);
        for (int i = 0; i < 6; i++) {
            full.does(0, 0);
        }
        Check.due("full of another's", 0, full.washes(1, 0));
        Check.due("full of another deed", 0, full.washes(0, 1));
    }

    private static void darkening() {
        DOC.says("DARK for some CELLS: the fewest curtains to be drawn (of PANES that SEE now) so that there is one of these that "
            + "no PANE SEES");
        GlassStreet x = Check.made(SIX);
        Check.due("all six", 63, x.dark(1));
        Check.due("another is dark", 0, x.dark(2));
        Check.due("one of both is", 0, x.dark(3));
        Check.due("9", 0, x.dark(512));
        x.curtain(2);
        Check.due("not what is drawn", 59, x.dark(1));
        x.stone(4);
        Check.due("not what is no more", 43, x.dark(1));
        GlassStreet none = new GlassStreet();
        Check.due("no panes", 0, none.dark(1023));
        GlassStreet thick = Check.made("pane p thick keeps 1 sees 0 ; pane q plain keeps 1 sees 0 ; light 1 0 ;");
        Check.due("by light", 3, thick.dark(1));
        thick.hour();
        Check.due("by no light", 2, thick.dark(1));
        Check.due("a mirror the other way round", 1, Check.made("pane m mirror keeps 1 sees 9 ;").dark(1));
        DOC.says("of equal ones the least set (bits).");
        GlassStreet y = Check.made(ROW);
        Check.due("5 or 4", 16, y.dark(48));
        Check.due("4 or 1", 2, y.dark(18));
        Check.due("one of six", 1, y.dark(63));
        GlassStreet z = Check.made("pane p plain keeps 1 sees 0 ; pane q plain keeps 1 sees 0 3 ; pane r plain keeps 1 sees 3 9 ; "
            + "pane s plain keeps 1 sees 9 ;");
        Check.due("3, 6 or 12", 3, z.dark(521));
        Check.due("6 or 12", 6, z.dark(520));
        Check.due("12", 12, z.dark(512));
        String more = "pane p plain keeps 1 sees %d ; pane q plain keeps 1 sees %d ; pane r plain keeps 1 sees %d ;";
        Check.due("one ahead of a lesser set of two, 0 first", 4, Check.made(String.format(more, 1, 1, 0)).dark(3));
        Check.due("one ahead of a lesser set of two, 1 first", 4, Check.made(String.format(more, 0, 0, 1)).dark(3));
        Check.due("the lesser of two sets of one, 0 first", 1, Check.made(String.format(more, 0, 1, 9)).dark(3));
        Check.due("the lesser of two sets of one, 1 first", 1, Check.made(String.format(more, 1, 0, 9)).dark(3));
    }

    private static void saying() {
        DOC.says("SAID: that a DEED, done now in an unknown CELL, was, or was not, SEEN by a PANE");
        GlassStreet x = Check.made("pane p plain keeps 1 sees 0 1 2 ; pane t thick keeps 1 sees 2 3 ; pane m mirror keeps 1 sees 0 ; light 1 0 ;");
        Check.due("of p", true, x.say(0, true));
        Check.due("seen", 7, x.where());
        Check.due("of t", true, x.say(1, true));
        Check.due("seen by both", 4, x.where());
        x.hour();
        Check.due("by no light it sees none", 0, x.where());
        x.say(1, false);
        Check.due("and did not see it", 7, x.where());
        x.say(2, true);
        Check.due("a mirror", 1, x.where());
        x.curtain(2);
        Check.due("drawn it sees none", 0, x.where());
        x.stone(2);
        Check.due("no more", 0, x.where());
        Check.due("of a broken one something can be said, too", true, x.say(2, false));
        Check.due("that it did not", 7, x.where());
        DOC.says("a later one of a PANE in place of the elder.");
        GlassStreet y = Check.made("pane p plain keeps 1 sees 9 ; pane q plain keeps 1 sees 8 9 ;");
        for (int i = 0; i < 4; i++) {
            y.say(0, true);
            Check.due("seen", 512, y.where());
            y.say(0, false);
            Check.due("not", 511, y.where());
            Check.due("of one", 1, y.count(9));
        }
        y.say(0, true);
        y.say(0, true);
        Check.due("twice the same", 512, y.where());
        y.say(0, false);
        y.say(0, false);
        Check.due("twice the same", 511, y.where());
        y.say(1, true);
        Check.due("of both", 256, y.where());
        Check.due("two", 2, y.count(9));
        DOC.says("WHERE: CELLS (bits) by which all SAID is so.");
        Check.due("nothing said: all", 1023, Check.made(ROW).where());
        for (int set = 0; set < 64; set++) {
            GlassStreet z = Check.made(ROW);
            for (int pane = 0; pane < 6; pane++) {
                z.say(pane, (set >> pane & 1) != 0);
            }
            int want = set == 0 ? 960 : Integer.bitCount(set) == 1 ? set : 0;
            Check.due("seen by " + set + " and no others", want, z.where());
        }
    }

    private static void asking() {
        DOC.says("ASK: the PANE of which nothing is SAID by which the greater number of CELLS that it SEES, or does not, is the least");
        GlassStreet x = Check.made("pane p plain keeps 1 sees 0 ; pane q plain keeps 1 sees 0 1 2 3 ; pane r plain keeps 1 sees 0 1 2 3 4 5 6 7 ; "
            + "pane s plain keeps 1 sees 0 1 2 3 4 ;");
        Check.due("5 of 10", 3, x.ask());
        x.say(3, true);
        Check.due("p and q part 1 from 4, r none", 0, x.ask());
        x.say(0, false);
        Check.due("q parts 3 from 1", 1, x.ask());
        x.say(1, true);
        Check.due("r parts none", -1, x.ask());
        x.say(3, false);
        x.say(1, false);
        Check.due("5 to 9: r parts 3 from 2", 2, x.ask());
        x.say(2, true);
        Check.due("of all something is said", -1, x.ask());
        DOC.says("if that is less than all");
        GlassStreet all = Check.made("pane p plain keeps 1 sees 0 1 2 3 4 5 6 7 8 9 ;");
        Check.due("one that sees all", -1, all.ask());
        all.curtain(0);
        Check.due("one that sees none", -1, all.ask());
        GlassStreet nine = Check.made("pane p plain keeps 1 sees 0 1 2 3 4 5 6 7 8 ; pane q plain keeps 1 sees 9 ;");
        Check.due("9 is less than 10", 0, nine.ask());
        nine.say(0, false);
        Check.due("of one cell none parts", -1, nine.ask());
        nine.say(1, false);
        Check.due("of no cell none parts", 0, nine.where());
        Check.due("of no cell none parts", -1, nine.ask());
        Check.due("no panes", -1, new GlassStreet().ask());
        GlassStreet dark = Check.made("pane t thick keeps 1 sees 0 ; light 1 0 ;");
        Check.due("by light", 0, dark.ask());
        dark.hour();
        Check.due("by none", -1, dark.ask());
        DOC.says("of equal ones the first.");
        GlassStreet y = Check.made(SIX);
        for (int pane = 0; pane < 5; pane++) {
            Check.due("the first of those left", pane, y.ask());
            y.curtain(pane);
        }
        GlassStreet z = Check.made("pane p plain keeps 1 sees 0 1 ; pane q plain keeps 1 sees 2 3 4 5 6 7 8 9 ; pane r plain keeps 1 sees 0 1 2 ; "
            + "pane s plain keeps 1 sees 0 1 2 3 4 5 6 ;");
        Check.due("7 either way: r ahead of s", 2, z.ask());
    }

    private static void remembering() {
        DOC.says("MEMORY: HARM, if each PANE kept so many (1 to 6) at most: its newest ones alone.");
        GlassStreet x = Check.made("pane p plain keeps 6 sees 0 ; pane q plain keeps 6 sees 0 ; person a at 0 ; " + DEEDS);
        Check.due("none", 0, x.memory(1) + x.memory(6));
        for (int deed = 0; deed < 5; deed++) {
            x.does(0, deed);
        }
        for (int keeps = 1; keeps <= 6; keeps++) {
            int newest = 31 & ~((1 << Math.max(0, 5 - keeps)) - 1);
            Check.due("the newest " + keeps, newest, x.memory(keeps));
        }
        x.does(0, 0);
        Check.due("6 of 6", 31, x.memory(6));
        Check.due("5 of 6: the oldest, done again as the newest", 31, x.memory(5));
        Check.due("4 of 6", 29, x.memory(4));
        x.wash(1);
        Check.due("1 of each", 17, x.memory(1));
        x.curtain(0);
        Check.due("not behind a curtain", 16, x.memory(1));
        x.stone(0);
        Check.due("of a broken one", 17, x.memory(1));
        Check.due("nothing is lost by it", 11, x.count(5));
        GlassStreet one = Check.made("pane p frosted keeps 1 sees 0 ; person a at 0 ; " + DEEDS);
        one.does(0, 0);
        one.does(0, 1);
        Check.due("what it never kept does not come back", 2, one.memory(6));
    }

    private static void standing() {
        DOC.says("GLASS: the first CELL of so many (1 to 10) in a row, 0 to 9, in which most PEOPLE are now");
        for (int cell = 0; cell < 10; cell++) {
            GlassStreet x = Check.made("person a at " + cell + " ;");
            for (int n = 1; n <= 10; n++) {
                Check.due(n + " in a row, one at " + cell, Math.max(0, cell - n + 1), x.glass(n));
            }
        }
        GlassStreet x = Check.made("person a at 0 ; person b at 9 ; person c at 9 ; person g at 5 ; person h at 6 ;");
        int[] wants = {9, 5, 4, 6, 5, 4, 3, 2, 1, 0};
        for (int n = 1; n <= 10; n++) {
            Check.due(n + " in a row", wants[n - 1], x.glass(n));
        }
        x.walk(3, 4);
        Check.due("as they are now", 8, x.glass(2));
        DOC.says("of equal ones the least.");
        GlassStreet none = new GlassStreet();
        for (int n = 1; n <= 10; n++) {
            Check.due("nobody", 0, none.glass(n));
        }
        GlassStreet y = Check.made("person a at 3 ; person b at 8 ;");
        Check.due("one of two", 3, y.glass(1));
        Check.due("5 in a row", 0, y.glass(5));
        Check.due("6 in a row", 3, y.glass(6));
        Check.due("7 in a row", 2, y.glass(7));
    }

    private static void watching() {
        DOC.says("SEEN of a PERSON: PANES that SEE him now.");
        GlassStreet x = Check.made(SIX + "light 1 0 ;");
        Check.due("all six", 63, x.seen(0));
        x.curtain(0);
        x.stone(5);
        Check.due("four", 30, x.seen(0));
        x.walk(0, 1);
        Check.due("none", 0, x.seen(0));
        Check.due("the other", 30, x.seen(1));
        GlassStreet thick = Check.made("pane t thick keeps 1 sees 0 ; person a at 0 ; light 1 0 ;");
        Check.due("by light", 1, thick.seen(0));
        thick.hour();
        Check.due("by none", 0, thick.seen(0));
        DOC.says("EYES: the CELL that most PANES SEE now; of equal ones the first.");
        Check.due("no pane", 0, new GlassStreet().eyes());
        for (int cell = 0; cell < 10; cell++) {
            Check.due("one pane", cell, Check.made("pane p plain keeps 1 sees " + cell + " ;").eyes());
        }
        GlassStreet y = Check.made("pane p plain keeps 1 sees 3 4 ; pane q plain keeps 1 sees 9 4 ; pane r plain keeps 1 sees 9 ;");
        Check.due("4 and 9 by two", 4, y.eyes());
        y.curtain(0);
        Check.due("9 by two", 9, y.eyes());
        y.stone(2);
        Check.due("4 and 9 by one", 4, y.eyes());
        y.stone(1);
        Check.due("none by any", 0, y.eyes());
        DOC.says("BLIND: CELLS that no PANE SEES now.");
        Check.due("no pane", 1023, new GlassStreet().blind());
        Check.due("six panes, a cell each", 960, Check.made(ROW).blind());
        Check.due("one sees all", 0, Check.made("pane p plain keeps 1 sees 0 1 2 3 4 5 6 7 8 9 ;").blind());
        GlassStreet z = Check.made("pane p plain keeps 1 sees 0 9 ; pane q thick keeps 1 sees 5 ; light 1 0 ;");
        Check.due("0, 5, 9 are seen", 1023 & ~(1 | 32 | 512), z.blind());
        z.hour();
        Check.due("0, 9 are", 1023 & ~(1 | 512), z.blind());
        z.curtain(0);
        Check.due("none is", 1023, z.blind());
    }

    private static void trails() {
        DOC.says("TRAIL of a PERSON: CELLS of MARKS that are SHOWN of him.");
        GlassStreet x = Check.made("pane p plain keeps 6 sees 0 9 ; pane z frosted keeps 6 sees 1 ; person a at 0 ; person b at 9 ; " + DEEDS);
        Check.due("none", 0, x.trail(0));
        x.does(0, 0);
        x.does(0, 1);
        x.does(1, 0);
        Check.due("0 once", 1, x.trail(0));
        Check.due("9", 512, x.trail(1));
        x.walk(0, 1);
        x.does(0, 0);
        Check.due("not by a frosted one", 1, x.trail(0));
        x.stone(1);
        Check.due("by a broken one", 3, x.trail(0));
        x.curtain(0);
        Check.due("not behind a curtain", 2, x.trail(0));
        Check.due("of five panes of six", 31, walked(ROW, 5).trail(0));
        DOC.says("LAST of a PERSON: the CELL of that one of the least age (of equal ones of the first PANE, there the newest).");
        GlassStreet y = Check.made("pane p plain keeps 6 sees 0 1 ; pane q plain keeps 6 sees 1 2 3 ; person a at 0 ; person b at 9 ; " + DEEDS);
        Check.due("none", -1, y.last(0));
        y.does(0, 0);
        Check.due("0", 0, y.last(0));
        y.hour();
        y.walk(0, 1);
        y.walk(0, 2);
        y.does(0, 0);
        Check.due("the younger, of the second pane", 2, y.last(0));
        y.walk(0, 1);
        y.does(0, 0);
        y.walk(0, 0);
        y.does(0, 1);
        Check.due("of equal ones the first pane's newest", 0, y.last(0));
        y.curtain(0);
        Check.due("q's newest of age 0", 1, y.last(0));
        y.stone(1);
        y.hour();
        y.curtain(0);
        Check.due("a broken one's do not age", 1, y.last(0));
        Check.due("not b", -1, y.last(1));
        Check.due("of six panes the first", 0, walked(ROW, 5).last(0));
    }

    private static void worst() {
        DOC.says("WORST: the PERSON of the most SHAME, if that is not 0; of equal ones the first.");
        GlassStreet x = Check.made("pane p plain keeps 6 sees 0 ; person a at 0 ; person b at 0 ; person c at 0 ; "
            + DEEDS.replace("harm 1 ;", "harm 0 ;"));
        Check.due("no mark", -1, x.worst());
        x.does(0, 0);
        Check.due("a deed of no harm", -1, x.worst());
        x.does(2, 1);
        Check.due("c", 2, x.worst());
        x.does(1, 1);
        Check.due("of b and c the first", 1, x.worst());
        x.does(0, 2);
        Check.due("a", 0, x.worst());
        x.curtain(0);
        Check.due("nothing is shown", -1, x.worst());
        Check.due("nobody", -1, new GlassStreet().worst());
        GlassStreet last = Check.made("pane p plain keeps 6 sees 0 ; person a at 0 ; person b at 0 ; person c at 0 ; person x at 0 ; "
            + "person y at 0 ; " + DEEDS);
        last.does(4, 0);
        Check.due("the fifth", 4, last.worst());
    }

    private static void oldest() {
        DOC.says("OLDEST: the PANE with the MARK of the greatest age; of equal ones the first.");
        GlassStreet x = Check.made(ROW + "fades 0 ;");
        Check.due("none", -1, x.oldest());
        x.walk(0, 1);
        x.does(0, 0);
        Check.due("of age 0", 1, x.oldest());
        x.walk(0, 0);
        x.does(0, 0);
        Check.due("of equal ones the first", 0, x.oldest());
        x.wash(0);
        x.hour();
        x.does(0, 0);
        Check.due("the older", 1, x.oldest());
        x.does(0, 0);
        x.curtain(1);
        Check.due("behind a curtain, too", 1, x.oldest());
        x.stone(1);
        x.hour();
        Check.due("p's and q's are 1 now", 0, x.oldest());
        x.undo();
        Check.due("q's", 1, x.oldest());
        GlassStreet last = Check.made(ROW);
        for (int cell = 1; cell <= 5; cell++) {
            last.walk(0, cell);
        }
        last.does(0, 0);
        Check.due("the sixth", 5, last.oldest());
    }

    private static void cloaking() {
        DOC.says("CLOAK: the fewest PANES, whole ones whose curtain is open, to be drawn so that the SHAME of a PERSON is no more "
            + "than so much (0 to 495)");
        GlassStreet x = walked(ROW, 5);
        Check.due("all is shown", 31, x.shame(0));
        Check.due("31: none", 0, x.cloak(0, 31));
        Check.due("495: none", 0, x.cloak(0, 495));
        Check.due("30: the least", 1, x.cloak(0, 30));
        Check.due("15: the one of 16", 16, x.cloak(0, 15));
        Check.due("14: two", 17, x.cloak(0, 14));
        Check.due("7: two", 24, x.cloak(0, 7));
        Check.due("0: all five", 31, x.cloak(0, 0));
        Check.due("of the other none", 0, x.cloak(1, 0));
        x.curtain(4);
        Check.due("drawn already", 0, x.cloak(0, 15));
        x.curtain(4);
        x.stone(4);
        Check.due("no more: 16 stays", -1, x.cloak(0, 15));
        Check.due("16 is so much", 15, x.cloak(0, 16));
        GlassStreet drawn = walked(ROW, 5);
        drawn.curtain(4);
        drawn.stone(4);
        Check.due("drawn and no more: it can't be drawn, and 16 stays", -1, drawn.cloak(0, 15));
        Check.due("the four others", 15, drawn.cloak(0, 16));
        GlassStreet six = Check.made(SIX);
        six.does(0, 4);
        Check.due("all six", 63, six.cloak(0, 15));
        Check.due("none", 0, six.cloak(0, 16));
        GlassStreet frosted = Check.made(SIX.replace("plain", "frosted"));
        frosted.does(0, 4);
        Check.due("frosted ones need none", 0, frosted.cloak(0, 0));
        DOC.says("of equal ones the least set (bits).");
        GlassStreet y = walked(ROW.replaceAll("harm \\d+", "harm 9"), 5);
        Check.due("one of five", 1, y.cloak(0, 36));
        Check.due("two of five", 3, y.cloak(0, 27));
        Check.due("three of five", 7, y.cloak(0, 26));
        y.curtain(1);
        Check.due("two of four", 5, y.cloak(0, 18));
    }

    private static void twins() {
        DOC.says("TWIN of two PANES: how many MARKS, alike in PERSON, DEED and CELL, both have (of each as many as the one has that has "
            + "fewer of it).");
        GlassStreet x = Check.made("pane p plain keeps 6 sees 0 1 ; pane q plain keeps 6 sees 0 1 ; pane r plain keeps 6 sees 9 ; "
            + "person a at 0 ; person b at 0 ; " + DEEDS);
        Check.due("none", 0, x.twin(0, 1));
        for (int i = 1; i <= 6; i++) {
            x.does(0, 0);
            Check.due("alike", i, x.twin(0, 1));
        }
        x.does(0, 0);
        Check.due("full", 6, x.twin(0, 1));
        for (int left = 5; left >= 0; left--) {
            x.wash(1);
            Check.due("as many as the fewer", left, x.twin(0, 1));
            Check.due("either way", left, x.twin(1, 0));
        }
        Check.due("none of r", 0, x.twin(2, 0));
        GlassStreet y = Check.made("pane p plain keeps 6 sees 0 1 ; pane q plain keeps 6 sees 0 1 ; person a at 0 ; person b at 0 ; " + DEEDS);
        y.curtain(1);
        y.does(0, 0);
        y.curtain(0);
        y.curtain(1);
        y.does(1, 0);
        Check.due("another person", 0, y.twin(0, 1));
        y.does(0, 1);
        Check.due("another deed", 0, y.twin(0, 1));
        y.walk(0, 1);
        y.does(0, 0);
        Check.due("another cell", 0, y.twin(0, 1));
        y.hour();
        y.walk(0, 0);
        y.does(0, 0);
        Check.due("of another age, behind a curtain", 1, y.twin(0, 1));
        y.does(0, 0);
        Check.due("p has one of it", 1, y.twin(0, 1));
        y.stone(1);
        Check.due("of a broken one", 1, y.twin(1, 0));
    }

    private static void running() {
        DOC.says("RUN: the hours (0 to 99) in which the last MARK of a PANE is gone, if nothing else is done (0: it has none).");
        for (int age : new int[] {1, 2, 50, 98, 99, 100, 101, 9999}) {
            GlassStreet x = Check.made("pane p plain keeps 6 sees 0 ; person a at 0 ; " + DEEDS + "fades age = " + age + " ;");
            Check.due("it has none", 0, x.run(0));
            x.does(0, 0);
            Check.due("in " + age, age <= 99 ? age : -1, x.run(0));
            x.hour();
            Check.due("an hour on", age - 1 <= 99 ? age - 1 : -1, x.run(0));
        }
        GlassStreet y = Check.made(ROW + "fades bad < age ;");
        y.does(0, 4);
        y.does(0, 0);
        Check.due("the last of two", 17, y.run(0));
        y.wash(0);
        y.wash(0);
        y.does(0, 0);
        Check.due("two hours", 2, y.run(0));
        y.curtain(0);
        Check.due("behind a curtain", 2, y.run(0));
        y.stone(0);
        Check.due("no more: not within 99", -1, y.run(0));
        y.stone(1);
        Check.due("no more, without marks", 0, y.run(1));
        GlassStreet late = Check.made("pane p plain keeps 6 sees 0 ; person a at 0 ; " + DEEDS + "light 0 0 0 0 0 0 0 0 0 0 0 1 ; fades lit ;");
        late.does(0, 0);
        Check.due("by light", 12, late.run(0));
        Check.due("nothing is done by it", 0, late.count(3));
        Check.due("nor is it to be undone", 1, late.count(10));
        GlassStreet newer = Check.made("pane p plain keeps 6 sees 0 ; person a at 0 ; " + DEEDS + "fades newer = 0 ;");
        for (int i = 0; i < 6; i++) {
            newer.does(0, 0);
        }
        Check.due("one an hour", 6, newer.run(0));
    }

    private static int rests(int high, int low, int alone, int what) {
        try {
            return new GlassStreet().rests(high, low, alone, what);
        } catch (NoSuchElementException none) {
            return -9;
        }
    }

    private static void rents() {
        DOC.says("RENTS of two opposite: each asks high or low: both high: each gets so much (0 to 9); both low: each so much (0 to 9); "
            + "one high: he gets nothing, the low one so much (0 to 9)");
        for (int edge : new int[] {0, 9}) {
            Check.due("high", true, rests(edge, 5, 5, -1) > 0);
            Check.due("low", true, rests(5, edge, 5, -1) > 0);
            Check.due("alone", true, rests(5, 5, edge, -1) > 0);
        }
        for (int other : new int[] {-1, 10, -2147483648, 2147483647}) {
            for (int what : new int[] {-1, 0}) {
                Check.due("high", -9, rests(other, 5, 5, what));
                Check.due("low", -9, rests(5, other, 5, what));
                Check.due("alone", -9, rests(5, 5, other, what));
            }
        }
        DOC.says("RESTS: by which neither would get more by the other.");
        for (int rent = 0; rent < 1000; rent++) {
            int high = rent / 100;
            int low = rent / 10 % 10;
            int alone = rent % 10;
            // Both low always rests, as high alone gets nothing; the others by what the other choice would get.
            boolean isOneHigh = low == 0 && alone >= high;
            boolean areHigh = high >= alone;
            String wants = "0" + (isOneHigh ? "12" : "") + (areHigh ? "3" : "");
            GlassStreet x = new GlassStreet();
            StringBuilder found = new StringBuilder();
            try {
                int n = x.rests(high, low, alone, -1);
                for (int i = 0; i < n; i++) {
                    found.append(x.rests(high, low, alone, i));
                }
            } catch (NoSuchElementException none) {
                found.append("none");
            }
            Check.due("rests of " + high + ", " + low + ", " + alone, wants, found.toString());
            Check.due("one more", -9, rests(high, low, alone, wants.length()));
        }
    }

    /** The document's draws, once more. */
    private static final class Draws {
        private long g;

        Draws(int seed) {
            g = seed;
        }

        int below(int m) {
            g = (g * 1103515245L + 12345L) & 0x7FFFFFFFL;
            return (int) ((g >> 16) % m);
        }
    }

    /** The first seed whose draws are, by pairs, below so much so much; a wanted -1 is any but 0. */
    private static int seedOf(int... pairs) {
        for (int seed = 0; seed <= 9999; seed++) {
            Draws draws = new Draws(seed);
            boolean isFit = true;
            for (int i = 0; i < pairs.length && isFit; i += 2) {
                int drawn = draws.below(pairs[i]);
                isFit = pairs[i + 1] < 0 ? drawn != 0 : drawn == pairs[i + 1];
            }
            if (isFit) {
                return seed;
            }
        }
        Check.due("there is such a seed", true, false);
        return 0;
    }

    private static void draws() {
        DOC.says("A DRAW below m: g becomes (g * 1103515245 + 12345) modulo 2147483648 (g is the SEED at first); it is g / 65536, cut, "
            + "modulo m.");
        for (int seed : new int[] {0, 1, 2, 4999, 9998, 9999}) {
            Draws draws = new Draws(seed);
            GlassStreet x = Check.made("person a at 5 ; deed d harm 1 ; deed e harm 1 ; deed f harm 1 ;");
            int done = 0;
            for (int hours = 1; hours <= 99; hours++) {
                if (draws.below(3) == 2) {
                    draws.below(3);
                    done++;
                }
                Check.due("deeds of " + seed + " in " + hours + ", no panes: no draw below 9", done, x.years(seed, hours, 0));
            }
            Check.due("unseen", done, x.years(seed, 99, 1));
        }
        DOC.says("YEARS by a SEED of so many hours (1 to 99), from now on (all is as ahead then)");
        GlassStreet x = Check.made(SIX + "light 1 0 ;");
        x.does(0, 4);
        x.walk(1, 1);
        x.hour();
        x.curtain(3);
        x.stone(2);
        x.say(1, true);
        Check.due("a day", 0, Check.day(x, "does a d ; walk b 1 ;"));
        Check.feed(x, "hour");
        String before = Check.state(x);
        Check.due("of 99 hours", true, x.years(9999, 99, 0) > 0 && x.years(0, 99, 1) > 0 && x.years(0, 99, 2) > 0);
        Check.due("as ahead", before, Check.state(x));
        Check.due("the marks that are there count", true, x.years(seedOf(3, 0, 3, 0, 9, -1), 1, 2) == 16);
    }

    private static void years() {
        String street = "pane p plain keeps 6 sees %d ; person a at %d ; deed d harm 9 ;";
        int back = seedOf(3, 0, 9, -1, 3, 2, 1, 0, 9, -1);
        int on = seedOf(3, 1, 9, -1, 3, 2, 1, 0, 9, -1);
        DOC.says("each: for each PERSON, by numbers: a DRAW below 3: 0: he WALKS a CELL back, 1: on, if he can");
        int[][] walks = {{0, 0, 0}, {1, 0, 1}, {9, 8, 9}, {5, 4, 6}, {8, 7, 9}};
        for (int[] walk : walks) {
            for (int cell = 0; cell < 10; cell++) {
                GlassStreet x = Check.made(String.format(street, cell, walk[0]));
                Check.due("back from " + walk[0] + ", seen at " + cell, cell == (walk[0] == 0 ? 0 : walk[0] - 1) ? 9 : 0, x.years(back, 2, 2));
                Check.due("on from " + walk[0] + ", seen at " + cell, cell == (walk[0] == 9 ? 9 : walk[0] + 1) ? 9 : 0, x.years(on, 2, 2));
            }
        }
        int both = seedOf(3, 2, 2, 0, 3, 2, 2, 1, 9, -1);
        GlassStreet two = Check.made("pane p plain keeps 1 sees 0 1 ; person a at 0 ; person b at 1 ; deed d harm 1 ; deed e harm 2 ;");
        Check.due("b's is the newest", 2, two.years(both, 1, 2));
        Check.due("two deeds", 2, two.years(both, 1, 0));
        two.walk(0, 1);
        two.walk(0, 2);
        Check.due("a's is unseen", 1, two.years(both, 1, 1));
        DOC.says("2: a DRAW below DEEDS, if there are some: he DOES that");
        for (int deeds = 1; deeds <= 5; deeds++) {
            for (int deed = 0; deed < deeds; deed++) {
                String some = DEEDS.substring(0, DEEDS.indexOf(';', DEEDS.indexOf("harm " + (1 << deeds - 1))) + 1);
                GlassStreet x = Check.made("pane p plain keeps 1 sees 0 ; person a at 0 ; " + some);
                Check.due("deeds", deeds, x.count(2));
                Check.due("the deed " + deed + " of " + deeds, 1 << deed, x.years(seedOf(3, 2, deeds, deed, 9, -1), 1, 2));
            }
        }
        GlassStreet none = Check.made("pane p plain keeps 6 sees 0 ; person a at 0 ;");
        Check.due("no deeds", 0, none.years(3, 99, 0) + none.years(3, 99, 1) + none.years(3, 99, 2));
        GlassStreet nobody = Check.made("pane p plain keeps 6 sees 0 ; deed d harm 9 ;");
        Check.due("nobody", 0, nobody.years(3, 99, 0) + nobody.years(3, 99, 1) + nobody.years(3, 99, 2));
        DOC.says("the HOUR");
        int does = seedOf(3, 2, 1, 0, 9, -1);
        Check.due("it fades at once", 0, Check.made(String.format(street, 0, 0) + "fades 1 ;").years(does, 1, 2));
        Check.due("it was done", 1, Check.made(String.format(street, 0, 0) + "fades 1 ;").years(does, 1, 0));
        Check.due("it was seen", 0, Check.made(String.format(street, 0, 0) + "fades 1 ;").years(does, 1, 1));
        int later = seedOf(3, 2, 1, 0, 9, -1, 3, 2, 1, 0, 9, -1);
        GlassStreet thick = Check.made("pane p thick keeps 6 sees 0 ; person a at 0 ; deed d harm 9 ; light 0 1 ;");
        Check.due("unseen in the first hour, by no light", 1, thick.years(later, 1, 1));
        Check.due("seen in the second", 1, thick.years(later, 2, 1));
        thick.hour();
        Check.due("from now on: seen in the first", 0, thick.years(later, 1, 1));
        Check.due("not in the second", 1, thick.years(later, 2, 1));
        DOC.says("DEEDS that were done; those that no PANE SAW; HARM at last.");
        GlassStreet dark = Check.made(String.format(street, 0, 0));
        dark.does(0, 0);
        dark.curtain(0);
        Check.due("done", 2, dark.years(later, 2, 0));
        Check.due("unseen", 2, dark.years(later, 2, 1));
        Check.due("none is shown", 0, dark.years(later, 2, 2));
        dark.stone(0);
        Check.due("of a broken one for good", 9, dark.years(later, 99, 2));
    }

    private static void washings() {
        DOC.says("then a DRAW below 9, if there are PANES: 0: a DRAW below these: that is WASHED, if it can be");
        String two = "person a at 0 ; deed d harm 1 ; deed e harm 2 ; fades 0 ; pane p plain keeps 6 sees 0 ; pane q plain keeps 6 sees 1 ; ";
        int first = seedOf(3, 0, 9, 0, 2, 0);
        int second = seedOf(3, 0, 9, 0, 2, 1);
        int none = seedOf(3, 0, 9, -1);
        GlassStreet x = Check.made(two);
        Check.due("none to be washed", 0, x.years(first, 1, 2));
        x.does(0, 0);
        x.walk(0, 1);
        x.does(0, 1);
        Check.due("the first is washed", 2, x.years(first, 1, 2));
        Check.due("the second is", 1, x.years(second, 1, 2));
        Check.due("none is", 3, x.years(none, 1, 2));
        x.stone(0);
        Check.due("the first is no more", 3, x.years(first, 1, 2));
        int behind = seedOf(3, 2, 2, 0, 3, 2, 2, 1, 9, 0, 1, 0);
        GlassStreet y = Check.made("person a at 0 ; person b at 0 ; deed d harm 1 ; deed e harm 2 ; pane p plain keeps 6 sees 0 ; ");
        Check.due("once an hour, behind all people: b's is gone", 1, y.years(behind, 1, 2));
        Check.due("both were seen", 0, y.years(behind, 1, 1));
        for (int panes = 1; panes <= 6; panes++) {
            for (int pane = 0; pane < panes; pane++) {
                GlassStreet z = Check.made(ROW.substring(ROW.indexOf("person a")).replace("person b at 0 ; ", "")
                    + ROW.substring(0, ROW.indexOf("person a")).substring(0, 30 * panes).replaceAll("sees \\d", "sees 0"));
                Check.due("panes", panes, z.count(0));
                z.does(0, 0);
                for (int other = 0; other < panes; other++) {
                    if (other != pane) {
                        z.curtain(other);
                    }
                }
                Check.due("the pane " + pane + " of " + panes, 0, z.years(seedOf(3, 0, 9, 0, panes, pane), 1, 2));
            }
        }
    }

    private static void notches() {
        DOC.says("NOTCHES 0 to 3 hold the hour, CELLS, PANES with their MARKS, what is SAID (nothing can be undone when one is gone back to).");
        GlassStreet x = Check.made("pane p plain keeps 6 sees 0 ; person a at 0 ; deed d harm 1 ; deed e harm 2 ;");
        Check.due("0", true, x.notch(0, false));
        x.does(0, 0);
        x.hour();
        x.say(0, true);
        Check.due("1", true, x.notch(1, false));
        x.does(0, 1);
        x.walk(0, 1);
        x.curtain(0);
        x.say(0, false);
        Check.due("2", true, x.notch(2, false));
        x.stone(0);
        x.hour();
        Check.due("3", true, x.notch(3, false));
        Check.due("no 4", false, x.notch(4, false) || x.notch(4, true));
        Check.due("no -1", false, x.notch(-1, false) || x.notch(-1, true));
        Check.due("what can be undone stays as they are laid", 7, x.count(10));
        int[] order = {0, 3, 1, 2, 2, 0, 1};
        for (int notch : order) {
            Check.due("back to " + notch, true, x.notch(notch, true));
            Check.due("the hour", new int[] {0, 1, 1, 2}[notch], x.count(3));
            Check.due("the cell", notch < 2 ? 0 : 1, x.person(0));
            Check.due("marks", new int[] {0, 1, 2, 2}[notch], x.count(5));
            Check.due("what is shown", new String[] {"", "0001", "", "0001 0100"}[notch], Check.marks(x, 0));
            Check.due("curtains", notch < 2 ? 0 : 1, x.count(6));
            Check.due("no more", notch < 3 ? 0 : 1, x.count(7));
            Check.due("said", notch == 0 ? 0 : 1, x.count(9));
            Check.due("as it was said", new int[] {1023, 1, 1023, 1023}[notch], x.where());
            Check.due("nothing can be undone", false, x.undo());
            Check.due("none", 0, x.count(10));
        }
        x.hour();
        Check.due("what is done then can be", true, x.undo());
        x.hour();
        Check.due("a notch that was not laid anew", true, x.notch(1, true));
        Check.due("is as it was", 1, x.count(3));
        x.hour();
        Check.due("laid anew", true, x.notch(1, false));
        Check.due("another", true, x.notch(0, true));
        Check.due("back", true, x.notch(1, true));
        Check.due("as it was then", 2, x.count(3));
        GlassStreet none = new GlassStreet();
        none.hour();
        Check.due("without a street, too", true, none.notch(3, false));
        none.hour();
        Check.due("back", true, none.notch(3, true));
        Check.due("the hour", 1, none.count(3));
    }
}
