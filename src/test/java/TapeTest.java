/** Promises 2 to 4: feed, street, day. */
public final class TapeTest {
    private static final String ROW = "pane bay plain keeps 2 sees 0 1 ; person ann at 2 ; deed steal harm 40 ; ";

    public static void main(String[] args) {
        feeds();
        tokens();
        streets();
        paneLines();
        otherLines();
        laws();
        days();
        dayFaults();
        Check.end();
    }

    private static void feeds() {
        GlassStreet x = new GlassStreet();
        Check.due("feed of nothing", 0, x.feed(0, 0, 0));
        Check.due("feed of all bits", 0, x.feed(-1, -1, -1));
        Check.due("feed of 9, 10, 11, 31, 32, 126, 127, 128", 3, x.feed(0x090A0B1F207E7F80L, 0, 0));
        Check.due("signs on the tape", 3, x.count(11));
        Check.due("street of a tilde", Check.fault(1, 2), x.street());
        Check.due("the tape is taken", 0, x.count(11));
        Check.due("highest byte first, a ahead of b ahead of c", 24, x.feed(Check.eight("hour ;  ", 0),
            Check.eight("hour ;  ", 0), Check.eight("hour ; x", 0)));
        Check.due("x is wrong", Check.fault(1, 23), x.day());
        StringBuilder blanks = new StringBuilder();
        for (int i = 0; i < 995; i++) {
            blanks.append(i % 2 == 0 ? ' ' : '\n');
        }
        Check.due("995 blanks", 995, Check.feed(x, blanks.toString()));
        Check.due("1000 at most", 1000, Check.feed(x, "hour ; x"));
        Check.due("beyond 1000 is left out: a day is cut behind its 5th sign", Check.fault(1, 1000), x.day());
        Check.due("again empty", 3, Check.feed(x, "abc"));
        Check.due("street() takes it", Check.fault(1, 0), x.street());
        Check.due("empty", 0, x.count(11));
    }

    private static void tokens() {
        fault("no sign is known", "&", 1, 0);
        fault("a capital", "  Pane", 1, 2);
        fault("a word of 9 letters is none", "pane abcdefghi plain", 1, 5);
        fault("a word of 8 letters", "pane abcdefgh plain keeps 1 sees", 1, 32);
        fault("a number of 5 digits is none, though it would be wrong", "person a at 00001", 1, 12);
        fault("a number of 4 digits", "person a at 0010", 4, 12);
        fault("the end is at the length", "person a at   ", 1, 14);
        fault("words part at a digit", "person a1", 1, 8);
        fault("a word up to z", "zyxwvuts", 1, 0);
        fault("names of z", "person zz at 1 ; person zz", 3, 24);
        GlassStreet x = Check.made("pane a plain keeps 2sees 0\n1;person b at 0009;deed c harm 07;light 1 0;fades 3<age;");
        Check.due("keeps", 2, x.pane(0, 1));
        Check.due("sees", 3, x.pane(0, 5));
        Check.due("at 0009", 9, x.person(0));
        Check.due("facts may be names", 0, Check.street(x, "person age at 1;person bad at 2;deed lit harm 1;pane newer plain keeps 1 sees 1;"));
        Check.due("and stand in a day", 0, Check.day(x, "walk age 2;does bad lit;wash newer;hour;"));
    }

    private static void fault(String why, String text, int kind, int place) {
        GlassStreet x = new GlassStreet();
        Check.due(why + ": " + text, Check.fault(kind, place), Check.street(x, text));
        Check.due("nothing stands", 0, x.count(0) + x.count(1) + x.count(2));
    }

    /** A fault at the last token of a text that is not cut off. */
    private static void faultAtLast(String text, int kind) {
        fault("the last token", text, kind, text.lastIndexOf(' ') + 1);
    }

    private static void streets() {
        GlassStreet x = new GlassStreet();
        Check.due("an empty street", 0, x.street());
        Check.due("all lines", 0, Check.street(x, ROW + "light 1 0 ; fades 3 < age ;"));
        Check.due("panes", 1, x.count(0));
        Check.due("people", 1, x.count(1));
        Check.due("deeds", 1, x.count(2));
        x.hour();
        x.does(0, 0);
        x.curtain(0);
        x.notch(2, false);
        x.say(0, true);
        Check.day(x, "hour ; hour ;");
        Check.due("a fault", Check.fault(1, 5), Check.street(x, "pane ;"));
        Check.due("all stays by a fault: panes", 1, x.count(0));
        Check.due("the hour", 1, x.count(3));
        Check.due("the day", 2, x.count(8));
        Check.due("what is said", 1, x.count(9));
        Check.due("what can be undone", 3, x.count(10));
        Check.due("the law of a street that failed is not kept", Check.fault(1, 10), Check.street(x, "fades 0 ; x"));
        Check.due("the street again", 0, Check.street(x, ROW));
        Check.due("hour 0", 0, x.count(3));
        Check.due("no marks", 0, x.count(5));
        Check.due("curtains open", 0, x.count(6));
        Check.due("panes whole", 0, x.count(7));
        Check.due("no day", 0, x.count(8));
        Check.due("nothing said", 0, x.count(9));
        Check.due("nothing undone", 0, x.count(10));
        Check.due("no notch", false, x.notch(2, true));
        Check.due("undo", false, x.undo());
        Check.due("an empty street", 0, x.street());
        Check.due("nothing", 0, x.count(0) + x.count(1) + x.count(2));
    }

    private static void paneLines() {
        for (String word : new String[] {"pane", "keeps", "sees", "person", "at", "deed", "harm", "light", "fades", "walk",
            "does", "wash", "curtain", "stone", "hour", "plain", "frosted", "thick", "mirror", "not", "and", "or"}) {
            faultAtLast("pane " + word, 1);
            faultAtLast("person " + word, 1);
            faultAtLast("deed " + word, 1);
        }
        faultAtLast("pane a b", 1);
        faultAtLast("pane a not", 1);
        faultAtLast("pane a harm", 1);
        faultAtLast("pane a plain sees", 1);
        faultAtLast("pane a plain keeps 0", 4);
        faultAtLast("pane a plain keeps 7", 4);
        faultAtLast("pane a plain keeps six", 1);
        faultAtLast("pane a plain keeps 6 at", 1);
        faultAtLast("pane a plain keeps 6 sees ;", 1);
        faultAtLast("pane a plain keeps 6 sees 10", 4);
        faultAtLast("pane a plain keeps 6 sees 3 4 3", 3);
        faultAtLast("pane a plain keeps 6 sees 3 4 x", 1);
        faultAtLast("pane a plain keeps 6 sees 0 1 2 3 4 5 6 7 8 9 0", 3);
        faultAtLast("pane a plain keeps 6 sees 0 1 2 3 4 5 6 7 8 9 10", 4);
        faultAtLast("pane a plain keeps 6 sees 0 ; pane a", 3);
        faultAtLast("person a at 0 ; pane a", 3);
        faultAtLast("deed a harm 0 ; pane a", 3);
        StringBuilder six = new StringBuilder();
        for (char name = 'a'; name < 'g'; name++) {
            six.append("pane ").append(name).append(" plain keeps 1 sees 0 ; ");
        }
        Check.due("six panes", 6, Check.made(six.toString()).count(0));
        faultAtLast(six + "pane", 5);
        fault("a seventh at its word", six + "pane a", 5, six.length());
        GlassStreet x = Check.made("pane a plain keeps 6 sees 9 8 7 6 5 4 3 2 1 0 ; pane b mirror keeps 1 sees 0 8 ; "
            + "pane c thick keeps 2 sees 1 ; pane d frosted keeps 3 sees 2 ;");
        Check.due("all cells", 1023, x.pane(0, 5));
        Check.due("a mirror both ways", 1 | 512 | 256 | 2, x.pane(1, 5));
        Check.due("kinds", 3201, x.pane(1, 0) * 1000 + x.pane(2, 0) * 100 + x.pane(0, 0) * 10 + x.pane(3, 0));
    }

    private static void otherLines() {
        faultAtLast("person a at 10", 4);
        faultAtLast("person a at b", 1);
        faultAtLast("person a harm", 1);
        faultAtLast("person a at 1 2", 1);
        faultAtLast("person a at 1 ; person a", 3);
        faultAtLast("deed a harm 100", 4);
        faultAtLast("deed a harm ;", 1);
        faultAtLast("deed a at", 1);
        faultAtLast("deed a harm 99 ; deed a", 3);
        faultAtLast("light ;", 1);
        faultAtLast("light 0 2", 4);
        faultAtLast("light 0 x", 1);
        faultAtLast("light 0 1 0 1 0 1 0 1 0 1 0 1 1", 5);
        faultAtLast("light 0 1 0 1 0 1 0 1 0 1 0 1 2", 4);
        faultAtLast("light 0 1 0 1 0 1 0 1 0 1 0 1 00000", 1);
        faultAtLast("light 1 ; light", 3);
        faultAtLast("fades 0 ; light 1 ; fades", 3);
        faultAtLast("walk", 1);
        faultAtLast(";", 1);
        faultAtLast("person a at 1 ; ;", 1);
        faultAtLast("7", 1);
        StringBuilder people = new StringBuilder();
        StringBuilder deeds = new StringBuilder();
        for (char name = 'a'; name < 'f'; name++) {
            people.append("person ").append(name).append(" at 9 ; ");
            deeds.append("deed ").append(name).append(" harm 99 ; ");
        }
        Check.due("five people", 5, Check.made(people.toString()).count(1));
        Check.due("five deeds", 5, Check.made(deeds.toString()).count(2));
        faultAtLast(people + "person", 5);
        faultAtLast(deeds + "deed", 5);
        faultAtLast(people + "personx", 1);
        GlassStreet x = Check.made("light 0 1 1 ;");
        StringBuilder light = new StringBuilder();
        for (int i = 0; i < 7; i++) {
            light.append(x.count(4));
            x.hour();
        }
        Check.due("light again and again", 110110, Integer.parseInt(light.toString()));
        Check.due("one hour of no light, again and again", 0, Check.made("light 0 ;").count(4));
        Check.due("twelve hours of light", 0, Check.made("light 1 1 1 1 1 1 1 1 1 1 1 0 ;").count(3));
    }

    /** How many hours a mark of harm 5 lasts by a law, up to 20; the first hour is lit, the second is not. */
    static int lasts(String law) {
        GlassStreet x = Check.made("pane p plain keeps 6 sees 0 ; person a at 0 ; deed d harm 5 ; light 1 0 ; fades " + law + " ;");
        x.does(0, 0);
        int passed = 0;
        while (passed < 20 && x.count(5) > 0) {
            passed++;
            x.hour();
        }
        return passed;
    }

    private static void laws() {
        faultAtLast("fades ;", 1);
        faultAtLast("fades old", 1);
        faultAtLast("fades harm", 1);
        fault("no sign ahead of a number", "fades - 1", 1, 6);
        fault("two comparisons", "fades 1 < 2 = 3", 1, 12);
        faultAtLast("fades 1 2", 1);
        faultAtLast("fades 1 and ;", 1);
        faultAtLast("fades 1 not", 1);
        faultAtLast("fades ( 1 ;", 1);
        faultAtLast("fades ( )", 1);
        faultAtLast("fades 1 )", 1);
        faultAtLast("fades 12345", 1);
        faultAtLast("fades not not not not not 1", 5);
        faultAtLast("fades not not not not not not", 5);
        faultAtLast("fades not not not not not (", 5);
        faultAtLast("fades not not not not not age", 5);
        faultAtLast("fades not not not not not old", 1);
        faultAtLast("fades not not not not not ;", 1);
        faultAtLast("fades ( ( ( ( ( 1", 5);
        faultAtLast("fades ( not ( not ( (", 5);
        Check.due("four deep", 1, lasts("not ( not ( 1 ) )"));
        Check.due("depth ends with its bracket", 1, lasts("( ( ( ( 1 ) ) ) ) * ( ( ( ( 1 ) ) ) )"));
        GlassStreet untold = Check.made("pane p plain keeps 1 sees 0 ; person a at 0 ; deed d harm 5 ;");
        untold.does(0, 0);
        Check.due("untold: 8 < age", 9, untold.run(0));
        Check.due("a number", 1, lasts("1"));
        Check.due("never", 20, lasts("0"));
        Check.due("age", 4, lasts("3 < age"));
        Check.due("bad", 5, lasts("age = bad"));
        Check.due("the light of the hour that passes", 1, lasts("lit"));
        Check.due("no light", 2, lasts("not lit"));
        Check.due("newer", 1, lasts("newer = 0"));
        Check.due("times binds tighter than plus", 7, lasts("age = 1 + 2 * 3"));
        Check.due("minus from the left", 3, lasts("age = 9 - 4 - 2"));
        Check.due("brackets", 9, lasts("age = ( 1 + 2 ) * 3"));
        Check.due("a sum is so if it is not 0", 1, lasts("age - 2"));
        Check.due("and, or from the left alike: (1 or 1) and 0", 20, lasts("1 or 1 and 0"));
        Check.due("(0 and 1) or 1", 1, lasts("0 and 1 or 1"));
        Check.due("and of 2 and 4 is 1", 1, lasts("( 2 and 4 ) = 1"));
        Check.due("or of 0 and 4 is 1", 1, lasts("( 0 or 4 ) = 1"));
        Check.due("and of 1 and 1", 1, lasts("1 and 1"));
        Check.due("and of 0 and 1", 20, lasts("0 and 1"));
        Check.due("or of 1 and 0", 1, lasts("1 or 0"));
        Check.due("or of 0 and 0", 20, lasts("0 or 0"));
        Check.due("not holds its part alone", 3, lasts("not 7 + 3 = age"));
        Check.due("not 0 is 1", 6, lasts("age = not 0 * 6"));
        Check.due("ints wrap", 1, lasts("9999 * 9999 * 9999 < 0"));
        Check.due("a test within brackets is a number", 4, lasts("age = ( 1 < 2 ) + ( 3 = 3 ) * 3"));
        StringBuilder longSum = new StringBuilder("age=1");
        while (longSum.length() < 880) {
            longSum.append("+0");
        }
        Check.due("a long sum", 1, lasts(longSum.toString()));
        faultAtLast("fades newer*2+(age-bad)<lit and not(0or 1) ; fades", 3);
    }

    private static void days() {
        GlassStreet x = Check.made(ROW);
        Check.due("an empty day", 0, x.day());
        Check.due("its lines", 0, x.count(8));
        Check.due("all lines", 0, Check.day(x, "walk ann 9 ; does ann steal ; wash bay ; curtain bay ; stone bay ; hour ;"));
        Check.due("its lines", 6, x.count(8));
        Check.due("to 0", 0, Check.day(x, "walk ann 0;walk ann 0;walk ann 1;walk ann 1;walk ann 1;walk ann 1;"));
        Check.due("a fault", Check.fault(1, 0), Check.day(x, "pane"));
        Check.due("the day stays", 6, x.count(8));
        Check.due("a day does nothing", 0, x.count(10));
        StringBuilder forty = new StringBuilder();
        for (int i = 0; i < 40; i++) {
            forty.append("hour ; ");
        }
        Check.due("forty lines", 0, Check.day(x, forty.toString()));
        Check.due("forty", 40, x.count(8));
        Check.due("a 41st", Check.fault(5, 280), Check.day(x, forty + "stone"));
        Check.due("a 41st that is none", Check.fault(1, 280), Check.day(x, forty + "light"));
        Check.due("in no street only hours can be told", Check.fault(2, 12), Check.day(new GlassStreet(), "hour ; wash bay"));
    }

    private static void dayFaults() {
        dayFault("walk bay", 2);
        dayFault("walk bob", 2);
        dayFault("walk pane", 1);
        dayFault("walk 1", 1);
        dayFault("walk ann ann", 1);
        dayFault("walk ann 10", 4);
        dayFault("walk ann 9 9", 1);
        dayFault("does steal", 2);
        dayFault("does ann ann", 2);
        dayFault("does ann ;", 1);
        dayFault("does ann harm", 1);
        dayFault("wash ann", 2);
        dayFault("curtain steal", 2);
        dayFault("stone not", 1);
        dayFault("stone rock", 2);
        dayFault("stone rockrockr", 1);
        dayFault("hour hour", 1);
        dayFault("person", 1);
        dayFault(";", 1);
    }

    private static void dayFault(String text, int kind) {
        GlassStreet x = Check.made(ROW);
        Check.due("day: " + text, Check.fault(kind, text.lastIndexOf(' ') + 1), Check.day(x, text));
        Check.due("its end: hour", Check.fault(1, 4), Check.day(x, "hour"));
    }
}
