import java.util.NoSuchElementException;
import java.util.function.IntUnaryOperator;

/** Promises 1 to 41, each sentence at its edges: what is too small, too large, empty, full, refused. */
public final class PromiseEdgeTest {
    /** No number of a pane, a person, a deed or what in the street below; some are such once their high bits are lost. */
    private static final int[] OTHERS = {-1, -2, -3, -32, 12, 16, 31, 32, 33, 63, 64, 65, 255, 256, 257, 65536, 65537,
        1 << 30, Integer.MAX_VALUE, Integer.MIN_VALUE, Integer.MIN_VALUE + 1};
    private static final String STREET = "pane p plain keeps 2 sees 0 1 ; pane f frosted keeps 3 sees 1 2 ; person a at 1 ; "
        + "person b at 2 ; deed d harm 40 ; deed e harm 7 ; ";

    public static void main(String[] args) {
        constants();
        made();
        feed();
        street();
        day();
        pane();
        shown();
        person();
        walk();
        does();
        wash();
        curtain();
        stone();
        hour();
        undo();
        judged();
        shame();
        harm();
        hide();
        proof();
        washes();
        dark();
        say();
        where();
        ask();
        memory();
        glass();
        seen();
        eyes();
        blind();
        young();
        trail();
        last();
        worst();
        oldest();
        cloak();
        twin();
        run();
        rests();
        years();
        notch();
        count();
        allCalls();
        Check.end();
    }

    /** The street with a mark in each pane, an hour old, something said, and a day. */
    private static GlassStreet lived() {
        GlassStreet x = Check.made(STREET);
        x.does(0, 0);
        x.hour();
        x.say(0, true);
        Check.due("a day", 0, Check.day(x, "does b e ; wash p ;"));
        return x;
    }

    /** Each other number is answered so, and nothing changes by it. */
    private static void others(GlassStreet x, String call, int want, IntUnaryOperator asked) {
        String before = Check.state(x);
        for (int other : OTHERS) {
            Check.due(call + " of " + other, want, asked.applyAsInt(other));
        }
        Check.due(call + ": nothing changed", before, Check.state(x));
    }

    private static int bit(boolean is) {
        return is ? 1 : 0;
    }

    private static void constants() {
        Doc doc = Doc.part("The constants:", "## Promise 1:");
        doc.says("The constants: : None.");
        Check.due("NONE", -1, GlassStreet.NONE);
        doc.end();
    }

    private static void made() {
        Doc doc = Doc.promise(1);
        doc.says("Nothing.");
        GlassStreet x = new GlassStreet();
        GlassStreet y = Check.made(STREET);
        y.does(0, 0);
        y.notch(0, false);
        Check.due("nothing, whatever another has", Check.state(new GlassStreet()), Check.state(x));
        Check.due("no notch", false, x.notch(0, true));
        Check.due("nothing can be undone", false, x.undo());
        for (int what = 0; what <= 11; what++) {
            Check.due("count " + what, what == 4 ? 1 : 0, x.count(what));
        }
        Check.due("no day", -1, Math.max(x.judged(0), x.judged(1)));
        Check.due("no shown, no pane", -4, x.shown(0, 0, 0) + x.pane(0, 0));
        Check.due("nobody", -4, x.person(0) + x.shame(0) + x.seen(0) + x.last(0));
        Check.due("no one, no pane", -4, x.worst() + x.oldest() + x.ask() + x.run(0));
        doc.end();
    }

    private static void feed() {
        Doc doc = Doc.promise(2);
        doc.says("Up to 24 signs come behind the TAPE: the bytes of a, b, c, of each the highest first");
        GlassStreet x = new GlassStreet();
        Check.due("none", 0, x.feed(0, 0, 0));
        Check.due("1", 1, x.feed('p', 0, 0));
        Check.due("24 more", 25, x.feed(Check.eight("erson ab", 0), Check.eight("cdefgh a", 0), Check.eight("t 9 ; pe", 0)));
        Check.due("behind them", 41, x.feed(0, Check.eight("rson b a", 0), Check.eight("t 3 ;   ", 0)));
        Check.due("a street", 0, x.street());
        Check.due("in their order", 93, x.person(0) * 10 + x.person(1));
        Check.due("the name", 0, Check.day(x, "walk abcdefgh 8 ;"));
        doc.says("others than 10 and 32 .. 126, and what is beyond 1,000, are left out");
        Check.due("between others", 7, x.feed(0x68006F0175001F72L, 0x7F8090FFA0C0E020L, 0x09000B0D3BFF0A00L));
        Check.due("hour ;", 0, x.day());
        Check.due("a line", 1, x.count(8));
        Check.due("none of all bits", 0, x.feed(-1, -1, Long.MIN_VALUE));
        for (int i = 1; i <= 41; i++) {
            Check.due("24 each", 24 * i, x.feed(Check.eight("        ", 0), Check.eight("\n\n\n\n\n\n\n\n", 0), Check.eight("        ", 0)));
        }
        Check.due("16 of 24", 1000, x.feed(Check.eight("      ho", 0), Check.eight("ur ; hou", 0), Check.eight("r;hour;x", 0)));
        Check.due("none", 1000, x.feed(Check.eight("r;hour;x", 0), 0, 0));
        Check.due("cut: the word hou", Check.fault(1, 997), x.day());
        doc.says("how many there are.");
        Check.due("of all", 3, x.feed('a', 'b', 'c'));
        Check.due("of all, not of these", 4, x.feed(0, 0, 'd'));
        Check.due("no new one", 4, x.feed(0, 0, 0));
        Check.due("as count(11)", 4, x.count(11));
        doc.end();
    }

    private static void street() {
        Doc doc = Doc.promise(3);
        doc.says("The TAPE is read as a STREET: 0, or its FAULT (all stays then).");
        GlassStreet x = lived();
        x.notch(1, false);
        String before = Check.state(x);
        String[] wrong = {"pane", "pane x plain keeps 1 sees 0 ; person y at 3 ; deed z harm 3 ; light 0 ; fades 1 ; &", "hour ;",
            "person y at 9 ; deed y", "light 0 ; light", "fades ( 1", STREET + "pane p"};
        for (String text : wrong) {
            Check.due("is a fault: " + text, true, Check.street(x, text) > 0);
            Check.due("all stays", before, Check.state(x));
        }
        Check.due("the notch stays", true, x.notch(1, true));
        Check.due("the law stays", 8, x.run(0));
        Check.due("a street", 0, Check.street(x, STREET));
        Check.due("anew", Check.state(Check.made(STREET)), Check.state(x));
        Check.due("of an empty tape", 0, x.street());
        Check.due("nothing", Check.state(new GlassStreet()), Check.state(x));
        doc.end();
    }

    private static void day() {
        Doc doc = Doc.promise(4);
        doc.says("The TAPE is read as a DAY, likewise.");
        GlassStreet x = lived();
        String before = Check.state(x);
        String[] wrong = {"walk", "hour ; hour ; &", "pane", "walk a 10", "does a x", "hour", "wash a", "hour ;".repeat(40) + "hour ;"};
        for (String text : wrong) {
            Check.due("is a fault: " + text, true, Check.day(x, text) > 0);
            Check.due("all stays", before, Check.state(x));
        }
        Check.due("a day of 40 lines", 0, Check.day(x, "hour ;".repeat(40)));
        Check.due("40", 40, x.count(8));
        Check.due("an empty one", 0, x.day());
        Check.due("none", 0, x.count(8));
        doc.end();
    }

    private static void pane() {
        Doc doc = Doc.promise(5);
        doc.says("Of a PANE, what 0: KIND (0 plain, 1 frosted, 2 thick, 3 mirror)");
        GlassStreet x = Check.made("pane p mirror keeps 1 sees 0 ; pane q thick keeps 6 sees 1 2 ; pane r frosted keeps 3 sees 9 ; "
            + "pane s plain keeps 4 sees 5 ; person a at 0 ; person b at 1 ; deed d harm 1 ; light 1 0 ; ");
        int[] kinds = {3, 2, 1, 0};
        int[] keeps = {1, 6, 3, 4};
        int[] sees = {513, 6, 512, 32};
        for (int pane = 0; pane < 4; pane++) {
            Check.due("kind", kinds[pane], x.pane(pane, 0));
        }
        doc.says("1: keeps");
        for (int pane = 0; pane < 4; pane++) {
            Check.due("keeps", keeps[pane], x.pane(pane, 1));
        }
        doc.says("2: MARKS");
        Check.due("none", 0, x.pane(0, 2));
        x.does(0, 0);
        x.does(0, 0);
        Check.due("full", 1, x.pane(0, 2));
        for (int i = 1; i <= 7; i++) {
            x.does(1, 0);
            Check.due("up to 6", Math.min(i, 6), x.pane(1, 2));
        }
        x.curtain(1);
        Check.due("behind a curtain, too", 6, x.pane(1, 2));
        doc.says("3: 1 the curtain is drawn");
        Check.due("drawn", 1, x.pane(1, 3));
        Check.due("open", 0, x.pane(0, 3));
        x.curtain(1);
        Check.due("open again", 0, x.pane(1, 3));
        doc.says("4: 1 no more");
        Check.due("whole", 0, x.pane(3, 4));
        x.stone(3);
        Check.due("no more", 1, x.pane(3, 4));
        Check.due("another is whole", 0, x.pane(2, 4));
        doc.says("5: CELLS that it SEES now, as bits");
        for (int pane = 0; pane < 3; pane++) {
            Check.due("sees", sees[pane], x.pane(pane, 5));
        }
        Check.due("no more", 0, x.pane(3, 5));
        x.hour();
        Check.due("thick, by no light", 0, x.pane(1, 5));
        x.curtain(2);
        Check.due("drawn", 0, x.pane(2, 5));
        doc.says("-2: others.");
        for (int what = 0; what < 6; what++) {
            int asked = what;
            GlassStreet z = lived();
            others(z, "pane(.., " + what + ")", -2, pane -> z.pane(pane, asked));
            Check.due("no third of two", -2, z.pane(2, what));
            Check.due("no fifth of four", -2, x.pane(4, what));
        }
        GlassStreet y = lived();
        others(y, "pane(0, ..)", -2, what -> y.pane(0, what));
        Check.due("what 6", -2, y.pane(0, 6));
        Check.due("of none", -2, new GlassStreet().pane(0, 0));
        doc.end();
    }

    private static void shown() {
        Doc doc = Doc.promise(6);
        doc.says("Of the i-th MARK of a PANE that is SHOWN, what 0: who (NONE: not shown), 1: the DEED, 2: the CELL, 3: its age");
        GlassStreet x = lived();
        x.does(0, 1);
        x.does(1, 1);
        Check.due("p", "0011 0110", Check.marks(x, 0));
        Check.due("f", "?011 ?110 ?120", Check.marks(x, 1));
        Check.due("who", 0, x.shown(0, 1, 0));
        Check.due("NONE", -1, x.shown(1, 2, 0));
        doc.says("-2: others, it is not SHOWN.");
        others(x, "shown(.., 0, 0)", -2, pane -> x.shown(pane, 0, 0));
        others(x, "shown(1, .., 0)", -2, i -> x.shown(1, i, 0));
        others(x, "shown(1, 0, ..)", -2, what -> x.shown(1, 0, what));
        Check.due("no third pane", -2, x.shown(2, 0, 0));
        Check.due("no third mark of p", -2, x.shown(0, 2, 1));
        Check.due("no fourth mark of f", -2, x.shown(1, 3, 1));
        Check.due("what 4", -2, x.shown(1, 2, 4));
        x.curtain(1);
        for (int what = 0; what < 4; what++) {
            Check.due("drawn", -2, x.shown(1, 0, what));
        }
        Check.due("of none", -2, new GlassStreet().shown(0, 0, 0));
        x.wash(0);
        Check.due("washed", -2, x.shown(0, 1, 1));
        doc.end();
    }

    private static void person() {
        Doc doc = Doc.promise(7);
        doc.says("The CELL of a PERSON; NONE: others.");
        GlassStreet x = lived();
        Check.due("a", 1, x.person(0));
        Check.due("b", 2, x.person(1));
        Check.due("no third", -1, x.person(2));
        others(x, "person", -1, x::person);
        Check.due("of none", -1, new GlassStreet().person(0));
        doc.end();
    }

    private static void walk() {
        Doc doc = Doc.promise(8);
        doc.says("WALK: true; false: others, not the next one.");
        GlassStreet x = lived();
        others(x, "walk(.., 1)", 0, person -> bit(x.walk(person, 1)));
        others(x, "walk(0, ..)", 0, cell -> bit(x.walk(0, cell)));
        String before = Check.state(x);
        for (int cell : new int[] {1, 3, 4, 5, 6, 7, 8, 9, 10}) {
            Check.due("not the next one, " + cell, false, x.walk(0, cell));
        }
        Check.due("no third person", false, x.walk(2, 1));
        Check.due("nothing changed", before, Check.state(x));
        Check.due("back", true, x.walk(0, 0));
        Check.due("on", true, x.walk(0, 1));
        Check.due("to be undone", 4, x.count(10));
        doc.end();
    }

    private static void does() {
        Doc doc = Doc.promise(9);
        doc.says("DO: PANES that SEE it, as bits; NONE: others.");
        GlassStreet x = lived();
        Check.due("both", 3, x.does(0, 0));
        Check.due("one", 2, x.does(1, 0));
        x.walk(1, 3);
        Check.due("none", 0, x.does(1, 0));
        others(x, "does(.., 0)", -1, person -> x.does(person, 0));
        others(x, "does(0, ..)", -1, deed -> x.does(0, deed));
        String before = Check.state(x);
        Check.due("no third", -2, x.does(2, 0) + x.does(0, 2));
        Check.due("nothing changed", before, Check.state(x));
        Check.due("no deed", -1, Check.made("person a at 0 ;").does(0, 0));
        Check.due("no person", -1, Check.made("deed d harm 0 ;").does(0, 0));
        doc.end();
    }

    private static void wash() {
        Doc doc = Doc.promise(10);
        doc.says("WASH: how many MARKS are left; NONE: others, no more, no MARK.");
        GlassStreet x = lived();
        others(x, "wash", -1, x::wash);
        Check.due("no third", -1, x.wash(2));
        x.does(0, 0);
        x.does(0, 0);
        Check.due("of 2", 1, x.wash(0));
        Check.due("of 1", 0, x.wash(0));
        String before = Check.state(x);
        Check.due("of none", -1, x.wash(0));
        Check.due("nothing changed", before, Check.state(x));
        Check.due("of 3", 2, x.wash(1));
        x.stone(1);
        Check.due("no more", -1, x.wash(1));
        Check.due("its marks stay", 2, x.pane(1, 2));
        doc.end();
    }

    private static void curtain() {
        Doc doc = Doc.promise(11);
        doc.says("CURTAIN: true; false: others, no more.");
        GlassStreet x = lived();
        others(x, "curtain", 0, pane -> bit(x.curtain(pane)));
        Check.due("no third", false, x.curtain(2));
        Check.due("drawn", true, x.curtain(1));
        Check.due("open", true, x.curtain(1));
        x.stone(1);
        String before = Check.state(x);
        Check.due("no more", false, x.curtain(1));
        Check.due("nothing changed", before, Check.state(x));
        doc.end();
    }

    private static void stone() {
        Doc doc = Doc.promise(12);
        doc.says("STONE: true; false: others, no more.");
        GlassStreet x = lived();
        others(x, "stone", 0, pane -> bit(x.stone(pane)));
        Check.due("no third", false, x.stone(2));
        Check.due("a stone", true, x.stone(0));
        String before = Check.state(x);
        Check.due("no more", false, x.stone(0));
        Check.due("nothing changed", before, Check.state(x));
        Check.due("the other", true, x.stone(1));
        Check.due("both", 3, x.count(7));
        doc.end();
    }

    private static void hour() {
        Doc doc = Doc.promise(13);
        doc.says("HOUR: how many MARKS faded.");
        GlassStreet x = lived();
        for (int i = 0; i < 7; i++) {
            Check.due("none", 0, x.hour());
        }
        Check.due("of age 9: both", 2, x.hour());
        Check.due("none is left", 0, x.hour());
        Check.due("of no street", 0, new GlassStreet().hour());
        doc.end();
    }

    private static void undo() {
        Doc doc = Doc.promise(14);
        doc.says("UNDO: true; false: nothing can be.");
        GlassStreet x = Check.made(STREET);
        String before = Check.state(x);
        Check.due("nothing", false, x.undo());
        for (int i = 0; i < 16; i++) {
            x.curtain(i % 2);
        }
        for (int i = 0; i < 16; i++) {
            Check.due("16", true, x.undo());
        }
        Check.due("as at first", before, Check.state(x));
        Check.due("nothing", false, x.undo());
        for (int i = 0; i < 17; i++) {
            x.hour();
        }
        for (int i = 0; i < 16; i++) {
            Check.due("16 of 17", true, x.undo());
        }
        Check.due("nothing", false, x.undo());
        Check.due("the first hour stays", 1, x.count(3));
        doc.end();
    }

    private static void judged() {
        Doc doc = Doc.promise(15);
        doc.says("JUDGED, what 0: the first line that can't be, 1: that line (NONE: none), 2: HARM; -2: others.");
        GlassStreet x = lived();
        Check.due("wash p", 1, x.judged(0));
        Check.due("none is unseen", -1, x.judged(1));
        Check.due("harm", 7, x.judged(2));
        others(x, "judged", -2, x::judged);
        Check.due("what 3", -2, x.judged(3));
        Check.due("another day", 0, Check.day(x, "stone f ; does b e ;"));
        Check.due("all can be", -1, x.judged(0));
        Check.due("unseen", 1, x.judged(1));
        Check.due("no harm", 0, x.judged(2));
        for (int i = 0; i < 3; i++) {
            Check.due("a third day", 0, Check.day(x, "does b e ;"));
            Check.due("nothing of the elder ones", -2, x.judged(0) + x.judged(1));
            Check.due("harm", 7, x.judged(2));
        }
        doc.end();
    }

    private static void shame() {
        Doc doc = Doc.promise(16);
        doc.says("SHAME; NONE: others.");
        GlassStreet x = lived();
        Check.due("a's", 40, x.shame(0));
        Check.due("b's", 0, x.shame(1));
        Check.due("no third", -1, x.shame(2));
        others(x, "shame", -1, x::shame);
        doc.end();
    }

    private static void harm() {
        Doc doc = Doc.promise(17);
        doc.says("HARM.");
        GlassStreet x = lived();
        Check.due("one deed by two panes", 40, x.harm());
        x.does(1, 1);
        Check.due("two", 47, x.harm());
        x.curtain(0);
        Check.due("by f alone", 47, x.harm());
        x.curtain(1);
        Check.due("none", 0, x.harm());
        Check.due("of no street", 0, new GlassStreet().harm());
        doc.end();
    }

    private static void hide() {
        Doc doc = Doc.promise(18);
        doc.says("HIDE, what 0: steps, 1: the CELL; NONE: others, none.");
        GlassStreet x = lived();
        Check.due("steps", 2, x.hide(0, 0));
        Check.due("the cell", 3, x.hide(0, 1));
        others(x, "hide(.., 0)", -1, person -> x.hide(person, 0));
        others(x, "hide(.., 1)", -1, person -> x.hide(person, 1));
        others(x, "hide(0, ..)", -1, what -> x.hide(0, what));
        Check.due("no third, what 2", -3, x.hide(2, 0) + x.hide(2, 1) + x.hide(0, 2));
        GlassStreet none = Check.made("pane p plain keeps 1 sees 0 1 2 3 4 5 6 7 8 9 ; person a at 9 ;");
        Check.due("none", -2, none.hide(0, 0) + none.hide(0, 1));
        none.stone(0);
        Check.due("where he is", 9, none.hide(0, 0) + none.hide(0, 1));
        doc.end();
    }

    private static void proof() {
        Doc doc = Doc.promise(19);
        doc.says("PROOF of DEEDS (bits), as bits (0: of no DEEDS); NONE: others, by none.");
        GlassStreet x = lived();
        Check.due("of no deeds", 0, x.proof(0, 0) + x.proof(1, 0));
        Check.due("by p", 1, x.proof(0, 1));
        Check.due("by none", -1, x.proof(0, 2));
        Check.due("not both", -1, x.proof(0, 3));
        Check.due("no third deed", -1, x.proof(0, 4));
        Check.due("nor with the first", -1, x.proof(0, 5));
        others(x, "proof(.., 0)", -1, person -> x.proof(person, 0));
        others(x, "proof(0, ..)", -1, deeds -> x.proof(0, deeds));
        Check.due("no third person", -1, x.proof(2, 0));
        Check.due("of no person", -1, new GlassStreet().proof(0, 0));
        GlassStreet five = Check.made("person a at 0 ; deed d harm 0 ; deed e harm 0 ; deed f harm 0 ; deed g harm 0 ; deed h harm 0 ; "
            + "pane p plain keeps 5 sees 0 ; ");
        for (int deed = 0; deed < 5; deed++) {
            five.does(0, deed);
        }
        Check.due("five deeds", 1, five.proof(0, 31));
        Check.due("no sixth", -1, five.proof(0, 32));
        Check.due("nor with the five", -1, five.proof(0, 63));
        GlassStreet noDeed = Check.made("person a at 0 ;");
        Check.due("no deeds are told: of none", 0, noDeed.proof(0, 0));
        Check.due("no first", -1, noDeed.proof(0, 1));
        doc.end();
    }

    private static void washes() {
        Doc doc = Doc.promise(20);
        doc.says("WASHES; NONE: others.");
        GlassStreet x = lived();
        Check.due("one of each", 2, x.washes(0, 0));
        Check.due("none", 0, x.washes(0, 1) + x.washes(1, 0));
        others(x, "washes(.., 0)", -1, person -> x.washes(person, 0));
        others(x, "washes(0, ..)", -1, deed -> x.washes(0, deed));
        Check.due("no third", -2, x.washes(2, 0) + x.washes(0, 2));
        doc.end();
    }

    private static void dark() {
        Doc doc = Doc.promise(21);
        doc.says("DARK for CELLS (bits), as bits; NONE: others, no CELL.");
        GlassStreet x = lived();
        Check.due("0", 1, x.dark(1));
        Check.due("1", 3, x.dark(2));
        Check.due("2", 2, x.dark(4));
        Check.due("9", 0, x.dark(512));
        Check.due("all", 0, x.dark(1023));
        Check.due("no cell", -1, x.dark(0));
        for (int other : new int[] {1024, 1025, 2047, 65536, -1, -1023, Integer.MAX_VALUE, Integer.MIN_VALUE, Integer.MIN_VALUE + 1}) {
            Check.due("others, " + other, -1, x.dark(other));
        }
        doc.end();
    }

    private static void say() {
        Doc doc = Doc.promise(22);
        doc.says("SAID: true; false: others.");
        GlassStreet x = lived();
        others(x, "say(.., true)", 0, pane -> bit(x.say(pane, true)));
        others(x, "say(.., false)", 0, pane -> bit(x.say(pane, false)));
        Check.due("no third", false, x.say(2, true));
        Check.due("of f", true, x.say(1, true));
        Check.due("of p again", true, x.say(0, false));
        Check.due("two", 2, x.count(9));
        Check.due("of no street", false, new GlassStreet().say(0, true));
        doc.end();
    }

    private static void where() {
        Doc doc = Doc.promise(23);
        doc.says("WHERE, as bits.");
        GlassStreet x = lived();
        Check.due("seen by p", 3, x.where());
        x.say(1, true);
        Check.due("and f", 2, x.where());
        x.say(1, false);
        Check.due("and not f", 1, x.where());
        x.say(0, false);
        Check.due("by neither", 1016, x.where());
        Check.due("nothing said", 1023, new GlassStreet().where());
        doc.end();
    }

    private static void ask() {
        Doc doc = Doc.promise(24);
        doc.says("ASK; NONE: none parts them.");
        GlassStreet x = lived();
        Check.due("f parts 0 from 1", 1, x.ask());
        x.say(1, true);
        Check.due("one cell", -1, x.ask());
        x.say(1, false);
        x.say(0, false);
        Check.due("none is left", -1, x.ask());
        Check.due("of no street", -1, new GlassStreet().ask());
        doc.end();
    }

    private static void memory() {
        Doc doc = Doc.promise(25);
        doc.says("MEMORY; NONE: others.");
        GlassStreet x = lived();
        x.does(0, 1);
        Check.due("1", 7, x.memory(1));
        Check.due("2", 47, x.memory(2));
        Check.due("6", 47, x.memory(6));
        others(x, "memory", -1, x::memory);
        Check.due("0, 7", -2, x.memory(0) + x.memory(7));
        doc.end();
    }

    private static void glass() {
        Doc doc = Doc.promise(26);
        doc.says("GLASS; NONE: others.");
        GlassStreet x = lived();
        Check.due("1", 1, x.glass(1));
        Check.due("2", 1, x.glass(2));
        Check.due("10", 0, x.glass(10));
        others(x, "glass", -1, x::glass);
        Check.due("0, 11", -2, x.glass(0) + x.glass(11));
        doc.end();
    }

    private static void seen() {
        Doc doc = Doc.promise(27);
        doc.says("SEEN, as bits; NONE: others.");
        GlassStreet x = lived();
        Check.due("a", 3, x.seen(0));
        Check.due("b", 2, x.seen(1));
        Check.due("no third", -1, x.seen(2));
        others(x, "seen", -1, x::seen);
        doc.end();
    }

    private static void eyes() {
        Doc doc = Doc.promise(28);
        doc.says("EYES.");
        GlassStreet x = lived();
        Check.due("1 by both", 1, x.eyes());
        x.curtain(1);
        Check.due("0, 1 by p", 0, x.eyes());
        x.curtain(0);
        Check.due("none by any", 0, x.eyes());
        doc.end();
    }

    private static void blind() {
        Doc doc = Doc.promise(29);
        doc.says("BLIND, as bits.");
        GlassStreet x = lived();
        Check.due("3 to 9", 1016, x.blind());
        x.curtain(1);
        Check.due("2 to 9", 1020, x.blind());
        x.stone(0);
        Check.due("all", 1023, x.blind());
        doc.end();
    }

    private static void young() {
        Doc doc = Doc.promise(30);
        doc.says("MARKS of all PANES that are no older than so much.");
        GlassStreet x = lived();
        x.does(1, 0);
        Check.due("0", 1, x.young(0));
        Check.due("1", 3, x.young(1));
        Check.due("2", 3, x.young(2));
        Check.due("most", 3, x.young(Integer.MAX_VALUE));
        Check.due("-1", 0, x.young(-1));
        Check.due("least", 0, x.young(Integer.MIN_VALUE));
        x.curtain(0);
        x.stone(1);
        x.hour();
        Check.due("drawn and broken ones, too", 1, x.young(0));
        Check.due("1", 2, x.young(1));
        Check.due("2", 3, x.young(2));
        GlassStreet six = Check.made("person a at 0 ; deed d harm 1 ; " + "pane %s plain keeps 6 sees 0 ; ".repeat(6)
            .formatted("p", "q", "r", "s", "t", "u"));
        for (int i = 0; i < 7; i++) {
            six.does(0, 0);
        }
        Check.due("six full panes", 36, six.young(0));
        doc.end();
    }

    private static void trail() {
        Doc doc = Doc.promise(31);
        doc.says("TRAIL, as bits; NONE: others.");
        GlassStreet x = lived();
        Check.due("a", 2, x.trail(0));
        Check.due("b", 0, x.trail(1));
        Check.due("no third", -1, x.trail(2));
        others(x, "trail", -1, x::trail);
        doc.end();
    }

    private static void last() {
        Doc doc = Doc.promise(32);
        doc.says("LAST; NONE: others, none is SHOWN.");
        GlassStreet x = lived();
        Check.due("a", 1, x.last(0));
        Check.due("none is shown", -1, x.last(1));
        x.does(1, 0);
        Check.due("not by a frosted one", -1, x.last(1));
        Check.due("no third", -1, x.last(2));
        others(x, "last", -1, x::last);
        x.curtain(0);
        Check.due("none is shown", -1, x.last(0));
        doc.end();
    }

    private static void worst() {
        Doc doc = Doc.promise(33);
        doc.says("WORST; NONE: nobody.");
        GlassStreet x = lived();
        Check.due("a", 0, x.worst());
        x.curtain(0);
        Check.due("nobody", -1, x.worst());
        Check.due("of no street", -1, new GlassStreet().worst());
        doc.end();
    }

    private static void oldest() {
        Doc doc = Doc.promise(34);
        doc.says("OLDEST; NONE: no MARK.");
        GlassStreet x = lived();
        Check.due("p", 0, x.oldest());
        x.wash(0);
        Check.due("f", 1, x.oldest());
        x.wash(1);
        Check.due("none", -1, x.oldest());
        Check.due("of no street", -1, new GlassStreet().oldest());
        doc.end();
    }

    private static void cloak() {
        Doc doc = Doc.promise(35);
        doc.says("CLOAK, as bits; NONE: others, by none.");
        GlassStreet x = lived();
        Check.due("0", 1, x.cloak(0, 0));
        Check.due("39", 1, x.cloak(0, 39));
        Check.due("40", 0, x.cloak(0, 40));
        Check.due("495", 0, x.cloak(0, 495));
        Check.due("496, -1", -2, x.cloak(0, 496) + x.cloak(0, -1));
        others(x, "cloak(.., 0)", -1, person -> x.cloak(person, 0));
        for (int most : new int[] {497, 500, 1000, 65536, Integer.MAX_VALUE, Integer.MIN_VALUE, -2}) {
            Check.due("others, " + most, -1, x.cloak(0, most));
        }
        Check.due("no third", -1, x.cloak(2, 0));
        x.stone(0);
        Check.due("by none", -1, x.cloak(0, 39));
        Check.due("b's", 0, x.cloak(1, 0));
        doc.end();
    }

    private static void twin() {
        Doc doc = Doc.promise(36);
        doc.says("TWIN; NONE: others, the same.");
        GlassStreet x = lived();
        Check.due("one", 1, x.twin(0, 1));
        Check.due("the other way", 1, x.twin(1, 0));
        Check.due("the same", -2, x.twin(0, 0) + x.twin(1, 1));
        Check.due("no third", -3, x.twin(2, 0) + x.twin(0, 2) + x.twin(2, 2));
        others(x, "twin(.., 0)", -1, pane -> x.twin(pane, 0));
        others(x, "twin(0, ..)", -1, pane -> x.twin(0, pane));
        others(x, "twin(.., ..)", -1, pane -> x.twin(pane, pane));
        doc.end();
    }

    private static void run() {
        Doc doc = Doc.promise(37);
        doc.says("RUN; NONE: others, not within 99.");
        GlassStreet x = lived();
        Check.due("8 more", 8, x.run(0));
        Check.due("no third", -1, x.run(2));
        others(x, "run", -1, x::run);
        x.wash(0);
        Check.due("none", 0, x.run(0));
        x.stone(1);
        Check.due("never", -1, x.run(1));
        for (int age = 99; age <= 100; age++) {
            GlassStreet y = Check.made(STREET + "fades " + (age - 1) + " < age ;");
            y.does(0, 0);
            Check.due("in " + age, age == 99 ? 99 : -1, y.run(0));
        }
        doc.end();
    }

    private static int rests(int high, int low, int alone, int what) {
        try {
            return new GlassStreet().rests(high, low, alone, what);
        } catch (NoSuchElementException none) {
            return -9;
        }
    }

    private static void rests() {
        Doc doc = Doc.promise(38);
        doc.says("RESTS of RENTS by what both get that ask high, that ask low, the low one alone, what NONE: how many");
        Check.due("5, 2, 8", 1, rests(5, 2, 8, GlassStreet.NONE));
        Check.due("8, 2, 5", 2, rests(8, 2, 5, GlassStreet.NONE));
        Check.due("5, 0, 8", 3, rests(5, 0, 8, GlassStreet.NONE));
        Check.due("5, 0, 5", 4, rests(5, 0, 5, GlassStreet.NONE));
        doc.says("i: the i-th as 2 * the first one's choice + the other one's (1 high; the least first).");
        Check.due("low, low", 0, rests(5, 0, 5, 0));
        Check.due("low, high", 1, rests(5, 0, 5, 1));
        Check.due("high, low", 2, rests(5, 0, 5, 2));
        Check.due("high, high", 3, rests(5, 0, 5, 3));
        Check.due("high, high is the second", 3, rests(8, 2, 5, 1));
        Check.due("high, low is the third", 2, rests(5, 0, 8, 2));
        doc.says("NoSuchElementException: others, none such.");
        Check.due("no fifth", -9, rests(5, 0, 5, 4));
        Check.due("no fourth", -9, rests(5, 0, 8, 3));
        Check.due("no second", -9, rests(5, 2, 8, 1));
        for (int other : OTHERS) {
            Check.due("high " + other, -9, rests(other, 0, 0, -1));
            Check.due("low " + other, -9, rests(0, other, 0, -1));
            Check.due("alone " + other, -9, rests(0, 0, other, -1));
            Check.due("what " + other, other == -1 ? 4 : -9, rests(5, 0, 5, other));
        }
        Check.due("10", -27, rests(10, 0, 0, -1) + rests(0, 10, 0, -1) + rests(0, 0, 10, -1));
        Check.due("9, 0", 4 + 2 + 4, rests(9, 0, 9, -1) + rests(9, 9, 9, -1) + rests(0, 0, 0, -1));
        GlassStreet x = lived();
        String before = Check.state(x);
        try {
            x.rests(0, 0, 0, 4);
            Check.due("it throws", true, false);
        } catch (NoSuchElementException none) {
            Check.due("nothing changed", before, Check.state(x));
        }
        doc.end();
    }

    private static void years() {
        Doc doc = Doc.promise(39);
        doc.says("YEARS by a SEED (0 to 9999), what 0: DEEDS, 1: unseen, 2: HARM; NONE: others.");
        GlassStreet x = lived();
        for (int seed : new int[] {0, 9999}) {
            for (int hours : new int[] {1, 99}) {
                Check.due("unseen ones are deeds", true, x.years(seed, hours, 1) <= x.years(seed, hours, 0));
                Check.due("harm", true, x.years(seed, hours, 2) >= 0 && x.years(seed, hours, 2) <= 47);
            }
        }
        others(x, "years(.., 1, 0)", -1, seed -> seed < 0 || seed > 9999 ? x.years(seed, 1, 0) : -1);
        others(x, "years(0, .., 0)", -1, hours -> hours < 1 || hours > 99 ? x.years(0, hours, 0) : -1);
        others(x, "years(0, 1, ..)", -1, what -> x.years(0, 1, what));
        Check.due("10000, -1", -2, x.years(10000, 1, 0) + x.years(-1, 1, 0));
        Check.due("0, 100 hours", -2, x.years(0, 0, 0) + x.years(0, 100, 0));
        Check.due("what 3", -1, x.years(0, 1, 3));
        doc.end();
    }

    private static void notch() {
        Doc doc = Doc.promise(40);
        doc.says("A NOTCH is laid (back: gone back to): true; false: none such, nothing is on it (back).");
        GlassStreet x = lived();
        others(x, "notch(.., false)", 0, notch -> bit(x.notch(notch, false)));
        others(x, "notch(.., true)", 0, notch -> bit(x.notch(notch, true)));
        Check.due("no fifth", false, x.notch(4, false) || x.notch(4, true));
        String before = Check.state(x);
        for (int notch = 0; notch < 4; notch++) {
            Check.due("nothing is on it", false, x.notch(notch, true));
        }
        Check.due("nothing changed", before, Check.state(x));
        for (int notch = 0; notch < 4; notch++) {
            Check.due("laid", true, x.notch(notch, false));
            for (int other = notch + 1; other < 4; other++) {
                Check.due("nothing is on another", false, x.notch(other, true));
            }
        }
        Check.due("laying changes nothing", before, Check.state(x));
        Check.due("back", true, x.notch(3, true));
        doc.end();
    }

    private static void count() {
        Doc doc = Doc.promise(41);
        doc.says("What 0: PANES, 1: PEOPLE, 2: DEEDS, 3: the hour, 4: its light, 5: MARKS of all PANES, 6: curtains drawn, as bits, "
            + "7: PANES that are no more, as bits, 8: lines of the DAY, 9: PANES of which something is SAID, 10: what can be undone, "
            + "11: signs on the TAPE.");
        GlassStreet x = Check.made("pane p plain keeps 6 sees 0 ; pane q plain keeps 6 sees 0 ; pane r plain keeps 6 sees 0 ; "
            + "pane s plain keeps 6 sees 0 ; pane t plain keeps 6 sees 0 ; pane u plain keeps 6 sees 0 ; person a at 0 ; "
            + "person b at 0 ; person c at 0 ; person y at 0 ; person z at 0 ; deed d harm 1 ; deed e harm 1 ; deed f harm 1 ; "
            + "deed g harm 1 ; deed h harm 1 ; light 0 ; ");
        Check.due("full", 655, x.count(0) * 100 + x.count(1) * 10 + x.count(2));
        Check.due("hour 0, no light, no marks", 0, x.count(3) + x.count(4) + x.count(5));
        for (int i = 0; i < 7; i++) {
            x.does(i % 5, i % 5);
        }
        Check.due("36 marks at most", 36, x.count(5));
        for (int pane = 0; pane < 6; pane++) {
            x.curtain(pane);
            Check.due("curtains", (2 << pane) - 1, x.count(6));
            x.say(pane, false);
            Check.due("panes", pane + 1, x.count(9));
        }
        for (int pane = 5; pane >= 0; pane--) {
            x.stone(pane);
            Check.due("no more", 63 & ~((1 << pane) - 1), x.count(7));
        }
        Check.due("marks of broken ones", 36, x.count(5));
        Check.due("16 at most", 16, x.count(10));
        x.hour();
        Check.due("the hour", 1, x.count(3));
        Check.due("no light again", 0, x.count(4));
        Check.due("40 lines", 0, Check.day(x, "hour ;".repeat(40)));
        Check.due("40", 40, x.count(8));
        Check.feed(x, "x".repeat(1001));
        Check.due("1000 signs", 1000, x.count(11));
        doc.says("NONE for another what.");
        GlassStreet y = lived();
        others(y, "count", -1, y::count);
        Check.due("12", -1, y.count(12));
        doc.end();
    }

    /** An object that is used for all of its 512 calls, and the last still answers. */
    private static void allCalls() {
        Doc doc = Doc.part("An object is used for at most", "## The public face");
        doc.says("An object is used for at most 512 calls after it has been made; what later calls answer is free.");
        GlassStreet x = new GlassStreet();
        for (int i = 0; i < 511; i++) {
            x.hour();
        }
        Check.due("the 512th", 511, x.count(3));
        GlassStreet y = Check.made("pane p plain keeps 1 sees 0 ; person a at 0 ; deed d harm 1 ; fades 0 ; light 1 0 1 0 1 0 1 ;");
        y.does(0, 0);
        for (int i = 0; i < 490; i++) {
            y.hour();
        }
        Check.due("its age", 490, y.shown(0, 0, 3));
        Check.due("light", 1, y.count(4));
        Check.due("never", -1, y.run(0));
        Check.due("harm", 1, y.harm());
        doc.end();
    }
}
