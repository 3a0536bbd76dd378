/** The document's terms, part 1: the tape, the languages and their faults; each sentence at its edges. */
public final class TermsEdgeTest {
    private static final Doc DOC = Doc.part("## Terms", "==== 2.");
    private static final String[] NO_NAMES = {"pane", "keeps", "sees", "person", "at", "deed", "harm", "light", "fades",
        "walk", "does", "wash", "curtain", "stone", "hour", "plain", "frosted", "thick", "mirror", "not", "and", "or"};
    private static final String ROW = "pane bay plain keeps 2 sees 0 1 ; person ann at 2 ; deed steal harm 40 ; ";
    private static final String PANE = "pane %s plain keeps 1 sees 0 ; ";
    private static final String PERSON = "person %s at 1 ; ";
    private static final String DEED = "deed %s harm 1 ; ";

    public static void main(String[] args) {
        tape();
        tokens();
        noTokens();
        streetLines();
        panes();
        people();
        deeds();
        lights();
        dayLines();
        names();
        joins();
        parts();
        facts();
        numbers();
        places();
        faultKinds();
        tooMany();
        newStreets();
        newDays();
        DOC.end();
        Check.end();
    }

    private static void stands(String text) {
        Check.due("street of " + text, 0, Check.street(new GlassStreet(), text));
    }

    private static void fault(String text, int kind, int place) {
        Check.due("street of " + text, Check.fault(kind, place), Check.street(new GlassStreet(), text));
    }

    /** A fault at the last token of a text, which has a blank ahead of it. */
    private static void faultAtLast(String text, int kind) {
        fault(text, kind, text.lastIndexOf(' ') + 1);
    }

    private static void dayStands(String text) {
        Check.due("day of " + text, 0, Check.day(Check.made(ROW), text));
    }

    private static void dayFaultAtLast(String text, int kind) {
        Check.due("day of " + text, Check.fault(kind, text.lastIndexOf(' ') + 1), Check.day(Check.made(ROW), text));
    }

    /** So many lines of a form, named a, b, c .. */
    private static String lines(String form, int n) {
        StringBuilder all = new StringBuilder();
        for (int i = 0; i < n; i++) {
            all.append(String.format(form, (char) ('a' + i)));
        }
        return all.toString();
    }

    /** A line whose tokens have a blank between: cut behind each, and with none in place of each, it is wrong there. */
    private static void cuts(String line, boolean isDay) {
        String[] tokens = line.split(" ");
        StringBuilder ahead = new StringBuilder();
        for (int i = 0; i < tokens.length; i++) {
            if (i > 0) {
                String cut = ahead.toString().trim();
                cutAt(cut, cut.length(), isDay);
                cutAt(cut + " \n", cut.length() + 2, isDay);
            }
            cutAt(ahead + "&", ahead.length(), isDay);
            ahead.append(tokens[i]).append(' ');
        }
    }

    private static void cutAt(String text, int place, boolean isDay) {
        GlassStreet x = Check.made(ROW);
        int got = isDay ? Check.day(x, text) : Check.street(x, text);
        Check.due((isDay ? "day of " : "street of ") + text, Check.fault(1, place), got);
    }

    private static void tape() {
        DOC.says("The TAPE has at most 1,000 signs");
        GlassStreet x = new GlassStreet();
        Check.due("999 signs", 999, Check.feed(x, " ".repeat(999)));
        Check.due("one more", 1000, Check.feed(x, "a"));
        Check.due("none more", 1000, Check.feed(x, "b"));
        Check.due("none of 24", 1000, x.feed(Check.eight("cccccccc", 0), Check.eight("cccccccc", 0), Check.eight("cccccccc", 0)));
        Check.due("on it", 1000, x.count(11));
        Check.due("the last sign is wrong", Check.fault(1, 999), x.street());
        Check.feed(x, " ".repeat(994));
        Check.due("full", 1000, Check.feed(x, "hour ;"));
        Check.due("beyond", 1000, Check.feed(x, "x"));
        Check.due("what is beyond is not read", 0, x.day());
        Check.due("a line", 1, x.count(8));
        Check.feed(x, " ".repeat(995));
        Check.due("the ; is beyond", 1000, Check.feed(x, "hour ;"));
        Check.due("the end is at 1000", Check.fault(1, 1000), x.day());
        Check.feed(x, " ".repeat(990));
        Check.due("24 signs of which 10 are not beyond", 1000, x.feed(Check.eight("hour;hou", 0), Check.eight("r;hour;x", 0), 0));
        Check.due("two lines", 0, x.day());
        Check.due("two lines", 2, x.count(8));
        DOC.says("10 and 32 .. 126");
        for (int sign = 0; sign < 256; sign++) {
            long want = sign == 10 || sign >= 32 && sign <= 126 ? 1 : 0;
            Check.due("feed of the sign " + sign + " alone, the highest", want, new GlassStreet().feed((long) sign << 56, 0, 0));
            Check.due("feed of the sign " + sign + " alone, the lowest", want, new GlassStreet().feed(0, 0, sign));
        }
        DOC.says("what reads it takes it: it is empty then.");
        GlassStreet y = new GlassStreet();
        Check.due("a street", 0, Check.street(y, ROW));
        Check.due("empty", 0, y.count(11));
        Check.due("a day", 0, Check.day(y, "hour ;"));
        Check.due("empty", 0, y.count(11));
        Check.due("a wrong street", Check.fault(1, 0), Check.street(y, "hour ;"));
        Check.due("empty", 0, y.count(11));
        Check.due("a wrong day", Check.fault(1, 0), Check.day(y, "pane"));
        Check.due("empty", 0, y.count(11));
        Check.due("from the begin again", 4, Check.feed(y, "hour"));
        Check.due("asking does not take it", 4, y.count(11) + y.judged(2) + y.harm());
    }

    private static void tokens() {
        DOC.says("TOKENS, each as long as can be");
        fault("panea plain", 1, 0);
        fault("person aat 1", 1, 11);
        fault("person a at 12 ;", 4, 12);
        fault("light 10 ;", 4, 6);
        Check.due("01 is one cell", 2, Check.made("pane a plain keeps 1 sees 01 ;").pane(0, 5));
        Check.due("0 1 is two", 3, Check.made("pane a plain keeps 1 sees 0 1 ;").pane(0, 5));
        DOC.says("blanks (10, 32) between where one likes");
        stands("pane a plain keeps 1sees 0 1;person b at 9;deed c harm 99;light 1 0;fades(age<2)or(not(bad)+1-1*1=3);");
        stands("\n\n  pane\na\n\nplain keeps\n1 \n sees  0\n1\n;\n");
        stands(" \n ");
        fault("person a at 1\n2", 1, 14);
        dayStands("walk ann 1;does ann steal;wash bay;curtain bay;stone bay;hour;");
        dayStands("\nwalk\n\nann  1\n; \n hour\n;");
        DOC.says("WORDS (letters a .. z, 8 at most)");
        stands("person a at 1 ; person z at 1 ; person abcdefgh at 1 ; person stuvwxyz at 1 ;");
        fault("person abcdefghi at 1 ;", 1, 7);
        fault("person zzzzzzzzzzzzzzzzzzzzzzzzzzzzzzzzzzzzzzzz at 1 ;", 1, 7);
        fault("person A at 1 ;", 1, 7);
        fault("person aA at 1 ;", 1, 8);
        fault("person ` at 1 ;", 1, 7);
        fault("person { at 1 ;", 1, 7);
        fault("person Z at 1 ;", 1, 7);
        Check.due("words of 8 letters that part at the last are two", 2,
            Check.made("person abcdefgh at 1 ; person abcdefgi at 1 ;").count(1));
        DOC.says("NUMBERS (1 to 4 digits; a letter may stand right behind)");
        Check.due("1 digit", 9, Check.made("person a at 9 ;").person(0));
        Check.due("4 digits", 9, Check.made("person a at 0009 ;").person(0));
        fault("person a at 00009 ;", 1, 12);
        fault("person a at 9999 ;", 4, 12);
        fault("person a at 10000 ;", 1, 12);
        fault("person a at 00000000000000000000000000000001 ;", 1, 12);
        fault("person a at 4294967297 ;", 1, 12);
        fault("person a at / ;", 1, 12);
        fault("person a at : ;", 1, 12);
        stands("pane a plain keeps 0006sees 0 ; fades 9999or 0and 1 ;");
        fault("person a at 1a ;", 1, 13);
        DOC.says("the signs ( ) < = + - * ;");
        stands("fades ( 1 ) < 2 + 3 - 4 * 5 ;");
        stands("fades ( 1 ) = 2 ;");
    }

    private static void noTokens() {
        DOC.says("All else (a longer WORD or NUMBER, too, at its first sign) is none.");
        for (char sign = 33; sign <= 126; sign++) {
            boolean isLetter = sign >= 'a' && sign <= 'z';
            boolean isDigit = sign >= '0' && sign <= '9';
            fault(sign + " ;", 1, 0);
            fault("person a at 1 " + sign + sign, 1, sign == ';' ? 15 : 14);
            if (!isDigit && "<=+-*;".indexOf(sign) < 0) {
                fault("fades 1" + sign + "1;", 1, 7);
            }
            if (!isLetter) {
                fault("pane " + sign + " plain keeps 1 sees 0 ;", 1, 5);
            }
        }
        fault("pane abcdefghi", 1, 5);
        fault("fades 12345", 1, 6);
        fault("fades 1 + newernewer", 1, 10);
        fault("fades notnotnot 1", 1, 6);
        fault("panepanepane a", 1, 0);
    }

    private static void streetLines() {
        DOC.says("STREET: any number of");
        stands("");
        stands("   ");
        stands("deed d harm 1 ; light 1 ; person a at 1 ; pane p plain keeps 1 sees 1 ; deed e harm 2 ; fades 0 ; person b at 2 ;");
        GlassStreet x = Check.made("fades 0 ; deed d harm 7 ; person a at 1 ; pane p plain keeps 1 sees 1 ; deed e harm 8 ;");
        x.does(0, 1);
        Check.due("in any order", 8, x.harm());
        DOC.says("pane NAME KIND keeps N sees N N .. ;");
        cuts("pane a plain keeps 1 sees 0 1 ;", false);
        faultAtLast("pane a keeps", 1);
        faultAtLast("pane a plain 1", 1);
        faultAtLast("pane a plain keeps 1 0", 1);
        faultAtLast("pane a plain keeps sees", 1);
        faultAtLast("pane a plain plain", 1);
        faultAtLast("pane 1", 1);
        DOC.says("person NAME at N ;");
        cuts("person a at 1 ;", false);
        faultAtLast("person a 1", 1);
        faultAtLast("person a at at", 1);
        faultAtLast("person a at 1 1", 1);
        DOC.says("deed NAME harm N ;");
        cuts("deed a harm 1 ;", false);
        faultAtLast("deed a 1", 1);
        faultAtLast("deed a harm harm", 1);
        faultAtLast("deed a harm 1 1", 1);
        DOC.says("light N N .. ;");
        cuts("light 0 1 ;", false);
        faultAtLast("light ;", 1);
        faultAtLast("light on", 1);
        DOC.says("fades E ;");
        cuts("fades not ( age + 1 < 2 and bad * 3 = 4 or lit - newer ) ;", false);
        faultAtLast("fades ;", 1);
        faultAtLast("fades 1 ; ;", 1);
    }

    private static void panes() {
        DOC.says("pane: 6 at most, numbered as told");
        GlassStreet x = Check.made("pane a plain keeps 1 sees 0 ; pane f plain keeps 2 sees 0 ; pane b plain keeps 3 sees 0 ; "
            + "pane e plain keeps 4 sees 0 ; pane c plain keeps 5 sees 0 ; pane d plain keeps 6 sees 0 ; ");
        for (int pane = 0; pane < 6; pane++) {
            Check.due("keeps of the pane " + pane, pane + 1, x.pane(pane, 1));
        }
        Check.due("six", 6, x.count(0));
        faultAtLast(lines(PANE, 6) + "pane", 5);
        DOC.says("KIND: plain, frosted, thick, mirror");
        String[] kinds = {"plain", "frosted", "thick", "mirror"};
        for (int kind = 0; kind < 4; kind++) {
            Check.due(kinds[kind], kind, Check.made("pane a " + kinds[kind] + " keeps 1 sees 0 ;").pane(0, 0));
        }
        for (String other : new String[] {"b", "clear", "plai", "plainx", "not", "hour", "mirrors"}) {
            faultAtLast("pane a " + other, 1);
        }
        DOC.says("keeps 1 to 6 MARKS");
        for (int keeps = 0; keeps <= 11; keeps++) {
            String text = "pane a plain keeps " + keeps + " sees 0 ;";
            Check.due(text, keeps >= 1 && keeps <= 6 ? 0 : Check.fault(4, 19), Check.street(new GlassStreet(), text));
        }
        faultAtLast("pane a plain keeps 9999", 4);
        faultAtLast("pane a plain keeps 0000", 4);
        Check.due("keeps 0001", 1, Check.made("pane a plain keeps 0001 sees 0 ;").pane(0, 1));
        DOC.says("sees CELLS 0 to 9, 1 to 10 of them, each once.");
        for (int cell = 0; cell <= 11; cell++) {
            String text = "pane a plain keeps 1 sees " + cell + " ;";
            GlassStreet y = new GlassStreet();
            Check.due(text, cell <= 9 ? 0 : Check.fault(4, 26), Check.street(y, text));
            Check.due("it sees that one", cell <= 9 ? 1 << cell : -2, y.pane(0, 5));
            if (cell <= 9) {
                faultAtLast("pane a plain keeps 1 sees " + cell + " " + cell, 3);
                faultAtLast("pane a plain keeps 1 sees 9 8 7 6 5 4 3 2 1 0 " + cell, 3);
                faultAtLast("pane a mirror keeps 1 sees " + cell + " 00" + cell, 3);
            }
        }
        faultAtLast("pane a plain keeps 1 sees 9999", 4);
        faultAtLast("pane a plain keeps 1 sees ;", 1);
        faultAtLast("pane a plain keeps 1 sees 0 1 2 3 4 5 6 7 8 9 10", 4);
        Check.due("ten", 1023, Check.made("pane a plain keeps 1 sees 9 8 7 6 5 4 3 2 1 0 ;").pane(0, 5));
        stands("pane a mirror keeps 1 sees 0 9 ;");
        stands("pane a plain keeps 1 sees 3 ; pane b plain keeps 1 sees 3 ;");
    }

    private static void people() {
        DOC.says("person: 5 at most, numbered as told; at a CELL 0 to 9.");
        GlassStreet x = Check.made("person e at 9 ; person a at 0 ; person d at 7 ; person b at 3 ; person c at 5 ;");
        Check.due("five", 5, x.count(1));
        Check.due("as told", 90735, x.person(0) * 10000 + x.person(1) * 1000 + x.person(2) * 100 + x.person(3) * 10 + x.person(4));
        faultAtLast(lines(PERSON, 5) + "person", 5);
        for (int cell = 0; cell <= 11; cell++) {
            String text = "person a at " + cell + " ;";
            GlassStreet y = new GlassStreet();
            Check.due(text, cell <= 9 ? 0 : Check.fault(4, 12), Check.street(y, text));
            Check.due("there", cell <= 9 ? cell : -1, y.person(0));
        }
        stands("person a at 3 ; person b at 3 ;");
    }

    private static void deeds() {
        DOC.says("deed: 5 at most, numbered as told; harm 0 to 99.");
        GlassStreet x = Check.made("pane p plain keeps 1 sees 0 ; person o at 0 ; deed e harm 99 ; deed a harm 0 ; deed d harm 7 ; "
            + "deed b harm 98 ; deed c harm 1 ;");
        int[] harms = {99, 0, 7, 98, 1};
        for (int deed = 0; deed < 5; deed++) {
            x.does(0, deed);
            Check.due("harm of " + deed, harms[deed], x.harm());
        }
        Check.due("five", 5, x.count(2));
        faultAtLast(lines(DEED, 5) + "deed", 5);
        stands("deed a harm 0 ; deed b harm 99 ; deed c harm 0099 ;");
        faultAtLast("deed a harm 100", 4);
        faultAtLast("deed a harm 0100", 4);
        faultAtLast("deed a harm 9999", 4);
    }

    private static void lights() {
        DOC.says("light: 0 or 1 of one hour behind another, 1 to 12, again and again (1).");
        String twelve = "0 1 1 0 1 0 0 0 1 1 1 1";
        for (int n = 1; n <= 12; n++) {
            String text = twelve.substring(0, 2 * n - 1);
            GlassStreet x = Check.made("light " + text + " ;");
            for (int hour = 0; hour <= 2 * n; hour++) {
                Check.due("the hour " + hour + " of " + text, twelve.charAt(2 * (hour % n)) - '0', x.count(4));
                x.hour();
            }
        }
        faultAtLast("light ;", 1);
        faultAtLast("light 2", 4);
        faultAtLast("light 0 1 2", 4);
        faultAtLast("light 9999", 4);
        faultAtLast("light " + twelve + " 0", 5);
        faultAtLast("light " + twelve + " 1", 5);
        GlassStreet untold = Check.made("pane p thick keeps 1 sees 0 ;");
        for (int hour = 0; hour < 30; hour++) {
            Check.due("untold, it is light", 1, untold.count(4));
            Check.due("and a thick pane sees", 1, untold.pane(0, 5));
            untold.hour();
        }
        DOC.says("light, fades: once each.");
        faultAtLast("light 1 ; light", 3);
        faultAtLast("fades 0 ; fades", 3);
        faultAtLast("light 0 ; person a at 1 ; fades 0 ; light", 3);
        faultAtLast("fades 0 ; light 0 ; fades", 3);
        GlassStreet again = new GlassStreet();
        Check.due("told", 0, Check.street(again, "light 0 ; fades 0 ;"));
        Check.due("of another street anew", 0, Check.street(again, "light 0 ; fades 0 ;"));
        Check.due("a wrong one", Check.fault(1, 20), Check.street(again, "light 0 ; fades 0 ; x"));
        Check.due("leaves none behind", 0, Check.street(again, "light 1 ; fades 1 ;"));
        Check.due("by light", 1, again.count(4));
        Check.due("a longer law", 0, Check.street(again, "fades not 1 ;"));
        Check.due("another street", 0, Check.street(again, "person a at 1 ;"));
        Check.due("a shorter law", 0, Check.street(again, ROW + "fades 1 ;"));
        again.walk(0, 1);
        again.does(0, 0);
        Check.due("nothing of the longer one is left", 1, again.hour());
        Check.due("untold then", 0, Check.street(again, ROW));
        again.walk(0, 1);
        again.does(0, 0);
        Check.due("the law of the elder street is gone", 9, again.run(0));
    }

    private static void dayLines() {
        DOC.says("DAY: any number of");
        dayStands("");
        dayStands(" \n");
        DOC.says("walk NAME N ;");
        cuts("walk ann 1 ;", true);
        dayFaultAtLast("walk ann ann", 1);
        dayFaultAtLast("walk ann 1 2", 1);
        dayFaultAtLast("walk 1", 1);
        DOC.says("does NAME NAME ;");
        cuts("does ann steal ;", true);
        dayFaultAtLast("does ann 0", 1);
        dayFaultAtLast("does ann steal ann", 1);
        DOC.says("wash NAME ;");
        cuts("wash bay ;", true);
        dayFaultAtLast("wash 0", 1);
        dayFaultAtLast("wash bay bay", 1);
        DOC.says("curtain NAME ;");
        cuts("curtain bay ;", true);
        dayFaultAtLast("curtain 0", 1);
        dayFaultAtLast("curtain bay bay", 1);
        DOC.says("stone NAME ;");
        cuts("stone bay ;", true);
        dayFaultAtLast("stone 0", 1);
        dayFaultAtLast("stone bay bay", 1);
        DOC.says("hour ;");
        cuts("hour ;", true);
        dayFaultAtLast("hour 1", 1);
        DOC.says("(a PERSON to a CELL; a PERSON a DEED; PANES)");
        for (int cell = 0; cell <= 11; cell++) {
            String text = "walk ann " + cell + " ;";
            Check.due(text, cell <= 9 ? 0 : Check.fault(4, 9), Check.day(Check.made(ROW), text));
        }
        dayFaultAtLast("walk ann 9999", 4);
        dayFaultAtLast("walk bay", 2);
        dayFaultAtLast("walk steal", 2);
        dayFaultAtLast("does bay", 2);
        dayFaultAtLast("does ann bay", 2);
        dayFaultAtLast("wash ann", 2);
        DOC.says("40 lines at most.");
        GlassStreet x = Check.made(ROW);
        Check.due("39 lines", 0, Check.day(x, "hour;".repeat(39)));
        Check.due("39", 39, x.count(8));
        Check.due("40 lines", 0, Check.day(x, "hour;".repeat(39) + "stone bay;"));
        Check.due("40", 40, x.count(8));
        for (String verb : new String[] {"walk", "does", "wash", "curtain", "stone", "hour"}) {
            Check.due("41 lines", Check.fault(5, 200), Check.day(x, "hour;".repeat(40) + verb));
        }
        Check.due("all signs, 200 lines", Check.fault(5, 200), Check.day(x, "hour;".repeat(200)));
        Check.due("the day stays", 40, x.count(8));
        Check.due("its last line", 0, x.judged(2));
    }

    private static void names() {
        DOC.says("A NAME is another WORD than pane, keeps, sees, person, at, deed, harm, light, fades, walk, does, wash, curtain, "
            + "stone, hour, the KINDS, not, and, or");
        for (String word : NO_NAMES) {
            faultAtLast("pane " + word, 1);
            faultAtLast("person " + word, 1);
            faultAtLast("deed " + word, 1);
            for (String verb : new String[] {"walk", "does", "does ann", "wash", "curtain", "stone"}) {
                dayFaultAtLast(verb + " " + word, 1);
            }
            if (word.length() < 8) {
                stands("pane " + word + "x plain keeps 1 sees 0 ; person x" + word + " at 1 ;");
            }
            stands("person " + word.substring(1) + "q at 1 ;");
        }
        stands("pane age plain keeps 1 sees 0 ; person bad at 1 ; deed lit harm 1 ; deed newer harm 1 ; fades age + bad + lit + newer ;");
        DOC.says("no two (PANES, PEOPLE, DEEDS) are alike.");
        for (String first : new String[] {PANE, PERSON, DEED}) {
            faultAtLast(String.format(first, "a") + "pane a", 3);
            faultAtLast(String.format(first, "a") + "person a", 3);
            faultAtLast(String.format(first, "a") + "deed a", 3);
        }
        faultAtLast(lines(PANE, 5) + "person x at 1 ; pane e", 3);
        faultAtLast(lines(PERSON, 5) + "deed e", 3);
        faultAtLast(lines(DEED, 5) + "pane e", 3);
        stands("person a at 1 ; person aa at 1 ; person aaa at 1 ; deed aaaaaaaa harm 1 ; deed aaaaaaa harm 1 ;");
        GlassStreet x = new GlassStreet();
        Check.due("a name", 0, Check.street(x, "person a at 1 ;"));
        Check.due("free again in another street", 0, Check.street(x, "deed a harm 1 ;"));
        Check.due("a wrong street", Check.fault(1, 16), Check.street(x, "person b at 1 ; x"));
        Check.due("leaves no name", 0, Check.street(x, "pane b plain keeps 1 sees 0 ;"));
    }

    /** How many hours, up to 20, a mark of harm 5 lasts by a law; its first hour is lit, its second is not, and so on. */
    private static void lasts(String law, int hours) {
        Check.due("fades " + law, hours, TapeTest.lasts(law));
    }

    private static void joins() {
        DOC.says("E: TEST { and TEST or or TEST }, from the left");
        lasts("1 or 0 and 0", 20);
        lasts("0 and 0 or 1", 1);
        lasts("0 and 1 or 1 and 0", 20);
        lasts("1 or 1 and 0 or 0", 20);
        lasts("1 or 1 and 0 or 1", 1);
        lasts("1 < 2 and 3 = 3", 1);
        faultAtLast("fades and", 1);
        faultAtLast("fades 1 and or", 1);
        faultAtLast("fades 1 or ;", 1);
        lasts("0" + " or 0".repeat(100) + " or 1", 1);
        DOC.says("TEST: SUM, or SUM < SUM, or SUM = SUM");
        lasts("1 < 2", 1);
        lasts("2 < 2", 20);
        lasts("3 < 2", 20);
        lasts("1 = 2", 20);
        lasts("2 = 2", 1);
        lasts("3 = 2", 20);
        fault("fades 1 < 2 < 3", 1, 12);
        fault("fades 1 = 2 = 3", 1, 12);
        fault("fades 1 = 2 < 3", 1, 12);
        stands("fades 1 < 2 and 3 = 4 or ( 5 < 6 ) = 7 ;");
        faultAtLast("fades <", 1);
        faultAtLast("fades 1 < =", 1);
        DOC.says("SUM: PRODUCT { + or - PRODUCT }");
        lasts("age = 9 - 4 - 2", 3);
        lasts("age = 9 - 4 + 2", 7);
        lasts("age = 2 + 3 * 2 - 4", 4);
        faultAtLast("fades -", 1);
        faultAtLast("fades 1 + -", 1);
        DOC.says("PRODUCT: PART { * PART }");
        lasts("age = 2 * 3 * 2", 12);
        lasts("age = 1 * 1", 1);
        faultAtLast("fades *", 1);
        faultAtLast("fades 1 * *", 1);
    }

    private static void parts() {
        DOC.says("PART: a NUMBER, a fact, not PART, ( E )");
        lasts("0000", 20);
        lasts("9999", 1);
        lasts("not 0", 1);
        lasts("not 1", 20);
        lasts("not not 7 = 1", 1);
        lasts("( ( 0 or 1 ) and 1 )", 1);
        lasts("not ( 0 < 0 )", 1);
        lasts("not 0 - 1", 20);
        lasts("not 5 < 1", 1);
        faultAtLast("fades ( )", 1);
        faultAtLast("fades not )", 1);
        faultAtLast("fades not and", 1);
        faultAtLast("fades ( 1 ;", 1);
        faultAtLast("fades 1 )", 1);
        faultAtLast("fades 1 (", 1);
        faultAtLast("fades 1 not", 1);
        faultAtLast("fades 1 age", 1);
        faultAtLast("fades old", 1);
        faultAtLast("fades keeps", 1);
        DOC.says("no PART lies within 5 of not and ( ).");
        String[] part = {"0", "age", "bad", "lit", "newer", "not", "("};
        for (int mix = 0; mix < 32; mix++) {
            StringBuilder five = new StringBuilder("fades ");
            for (int i = 0; i < 5; i++) {
                five.append((mix >> i & 1) == 0 ? "not " : "( ");
            }
            for (String last : part) {
                faultAtLast(five + last, 5);
            }
        }
        lasts("not not not not 0", 20);
        lasts("not not not not 3", 1);
        lasts("( ( ( ( 1 ) ) ) )", 1);
        lasts("not ( not ( 1 ) )", 1);
        lasts("( ( ( ( 1 ) + 0 ) * ( 1 ) ) )", 1);
        lasts("( ( ( ( 0 ) ) ) ) or ( ( ( ( 1 ) ) ) )", 1);
        lasts("not not not not 0 + not not not not 1", 1);
        faultAtLast("fades ( ( ( ( 1 ) ) ) ) or ( ( ( ( ( 1", 5);
        faultAtLast("fades not not not not 0 + not not not not not 0", 5);
        faultAtLast("fades ( ( ( ( 1 and not not", 5);
        faultAtLast("fades ( ( ( ( 1 * not 1", 5);
        stands("fades ( ( ( ( 1 ) ) ) and not not not 1 ) ;");
        String left = "1 or 1 = 1 + 1 * ";
        stands("fades " + (left + "( ").repeat(4) + left + "1" + " )".repeat(4) + " ;");
        lasts("0 or 1 = 1 + 2 * ( 0 or 1 = 1 + 2 * ( 0 or 1 = 1 + 2 * ( 0 or 1 = 1 + 2 * ( 0 or 1 = 1 + 2 * 0 ) ) ) )", 1);
        lasts("0 or 1 = 1 + 2 * ( 0 or 1 = 1 + 2 * ( 0 or 1 = 1 + 2 * ( 0 or 1 = 1 + 2 * 0 ) ) )", 20);
        lasts("0 or 3 = 1 + 2 * ( 0 or 3 = 1 + 2 * ( 0 or 3 = 1 + 2 * ( 0 or 3 = 1 + 2 * ( 0 or 3 = 1 + 2 * 1 ) ) ) )", 1);
    }

    private static void facts() {
        DOC.says("Facts: age (hours since the MARK was made)");
        lasts("age", 1);
        lasts("age = 1", 1);
        lasts("age = 2", 2);
        lasts("age < 1", 20);
        DOC.says("bad (the harm of its DEED)");
        GlassStreet x = Check.made("pane p plain keeps 6 sees 0 ; person a at 0 ; deed d harm 0 ; deed e harm 99 ; fades bad = 99 * lit ;");
        x.does(0, 0);
        x.does(0, 1);
        Check.due("that of 99", 1, x.hour());
        Check.due("that of 0 is left", "0001", Check.marks(x, 0));
        lasts("bad = 5", 1);
        lasts("bad = age", 5);
        DOC.says("lit (the light of the hour that passes)");
        lasts("lit", 1);
        lasts("lit = 0", 2);
        GlassStreet dark = Check.made("pane p plain keeps 1 sees 0 ; person a at 0 ; deed d harm 0 ; light 0 0 1 ; fades lit ;");
        dark.does(0, 0);
        Check.due("0, 0, 1", 100, dark.hour() + 10 * dark.hour() + 100 * dark.hour());
        GlassStreet untold = Check.made("pane p plain keeps 1 sees 0 ; person a at 0 ; deed d harm 0 ; fades lit = 1 ;");
        untold.does(0, 0);
        Check.due("untold it is 1", 1, untold.hour());
        DOC.says("newer (how many MARKS of its PANE are newer)");
        for (int newer = 0; newer <= 6; newer++) {
            GlassStreet y = Check.made("pane p plain keeps 6 sees 0 ; pane q plain keeps 6 sees 1 ; person a at 0 ; person b at 1 ; "
                + "deed d harm 0 ; fades newer = " + newer + " ;");
            for (int i = 0; i < 6; i++) {
                y.does(0, 0);
            }
            y.does(1, 0);
            Check.due("of 0 to 5 and 0 those that are " + newer, newer == 0 ? 2 : newer < 6 ? 1 : 0, y.hour());
        }
    }

    private static void numbers() {
        DOC.says("Of not, and, or, < and = comes 1 or 0");
        lasts("age = 6 * ( 7 and 8 )", 6);
        lasts("age = 6 * ( 7 or 0 )", 6);
        lasts("age = 6 * ( 3 < 9 )", 6);
        lasts("age = 6 * ( 9 = 9 )", 6);
        lasts("age = 6 * not 0", 6);
        lasts("age = 1 + 6 * ( 7 and 0 )", 1);
        lasts("age = 1 + 6 * ( 0 or 0 )", 1);
        lasts("age = 1 + 6 * ( 9 < 9 )", 1);
        lasts("age = 1 + 6 * ( 8 = 9 )", 1);
        lasts("age = 1 + 6 * not 9", 1);
        DOC.says("what is not 0 is so");
        lasts("2", 1);
        lasts("0 - 1", 1);
        lasts("0 - 1 and 0 - 2", 1);
        lasts("0 or 0 - 1", 1);
        lasts("not ( 0 - 1 )", 20);
        lasts("1 - 1", 20);
        DOC.says("ints wrap.");
        String most = "256 * 256 * 256 * 128";
        lasts("256 * 256 * 256 * 256", 20);
        lasts(most + " < 0", 1);
        lasts("0 < " + most + " - 1", 1);
        lasts(most + " - 1 + 1 < 0", 1);
        lasts("0 - " + most + " = " + most, 1);
        lasts("0 - " + most + " - 1 < 0", 20);
        lasts("9999 * 9999 * 9999 = " + number(9999 * 9999 * 9999), 1);
        lasts("9999 * 9999 * 9999 = " + number(9999 * 9999 * 9999 + 1), 20);
        DOC.says("Without fades: 8 < age.");
        GlassStreet x = Check.made("pane p plain keeps 1 sees 0 ; person a at 0 ; deed d harm 99 ;");
        x.does(0, 0);
        for (int hour = 1; hour <= 8; hour++) {
            Check.due("none by the hour " + hour, 0, x.hour());
        }
        Check.due("of age 8", 8, x.shown(0, 0, 3));
        Check.due("the ninth", 1, x.hour());
    }

    /** A number put together from ones of at most 4 digits. */
    private static String number(int whole) {
        long size = Math.abs((long) whole);
        String sum = size / 1000000 + " * 1000 * 1000 + " + size / 1000 % 1000 + " * 1000 + " + size % 1000;
        return whole < 0 ? "0 - ( " + sum + " )" : sum;
    }

    private static void places() {
        DOC.says("FAULTS, kind + 16 * the place (from 0) of a token, the end being one at the text's length");
        fault("&", 1, 0);
        fault("person", 1, 6);
        fault("person   ", 1, 9);
        fault("person a at 1 ;" + " ".repeat(984) + "&", 1, 999);
        fault(" ".repeat(994) + "person", 1, 1000);
        fault("fades 1" + " ".repeat(993), 1, 1000);
        fault(" ".repeat(984) + "person a at 7777", 4, 996);
        Check.due("signs that are left out have no place", Check.fault(1, 2), spoiled());
        DOC.says("of the first token from the left that is wrong the least");
        fault("person a at 10 ; person a at 10 ;", 4, 12);
        fault("person 1 at 10 ; & ;", 1, 7);
        fault("pane a plain keeps 9 sees 10", 4, 19);
        fault("pane a plain keeps 1 sees 3 3 10", 3, 28);
        fault("pane a plain keeps 1 sees 10 3 3", 4, 26);
        fault("light 0 0 0 0 0 0 0 0 0 0 0 0 2", 4, 30);
        fault("light 0 0 0 0 0 0 0 0 0 0 0 2 0", 4, 28);
        fault("fades not not not not not old", 1, 26);
        fault("fades not not not not not )", 1, 26);
        fault("fades not not not not not 12345", 1, 26);
        fault("fades not not not not not", 1, 25);
        GlassStreet x = Check.made(ROW);
        Check.due("a 41st line that begins by none", Check.fault(1, 200), Check.day(x, "hour;".repeat(40) + "pane"));
        Check.due("that begins by a ;", Check.fault(1, 200), Check.day(x, "hour;".repeat(40) + ";"));
        Check.due("does of two unknown", Check.fault(2, 5), Check.day(x, "does bob sing"));
    }

    private static int spoiled() {
        GlassStreet x = new GlassStreet();
        x.feed(0x2000090B7F20FF26L, 0, 0);
        return x.street();
    }

    private static void faultKinds() {
        DOC.says("1 it is none, or can't stand there");
        fault("&", 1, 0);
        fault("hour ;", 1, 0);
        fault("a ;", 1, 0);
        fault(";", 1, 0);
        fault("1 ;", 1, 0);
        fault("plain", 1, 0);
        DOC.says("2 a NAME of no PERSON (behind walk, does), of no DEED (the second of does), of no PANE (behind wash, curtain, stone) told");
        for (String name : new String[] {"bay", "steal", "an", "annn", "x", "age"}) {
            dayFaultAtLast("walk " + name, 2);
            dayFaultAtLast("does " + name, 2);
        }
        for (String name : new String[] {"bay", "ann", "stea", "steals", "x"}) {
            dayFaultAtLast("does ann " + name, 2);
        }
        for (String name : new String[] {"ann", "steal", "ba", "bayy", "x"}) {
            dayFaultAtLast("wash " + name, 2);
            dayFaultAtLast("curtain " + name, 2);
            dayFaultAtLast("stone " + name, 2);
        }
        GlassStreet none = new GlassStreet();
        Check.due("of no street", Check.fault(2, 5), Check.day(none, "walk ann 1 ;"));
        GlassStreet elder = Check.made("person ann at 1 ; person bob at 1 ;");
        Check.due("known", 0, Check.day(elder, "walk bob 2 ;"));
        Check.due("another street", 0, Check.street(elder, "person bob at 1 ;"));
        Check.due("ann is not in it", Check.fault(2, 5), Check.day(elder, "walk ann 2 ;"));
        Check.due("a street that is wrong", Check.fault(1, 17), Check.street(elder, "person carl at 1 "));
        Check.due("tells nobody", Check.fault(2, 5), Check.day(elder, "walk carl 2 ;"));
        Check.due("bob is still there", 0, Check.day(elder, "walk bob 2 ;"));
        DOC.says("3 a NAME told already; a CELL of sees that stands there already; light, fades a second time");
        faultAtLast("person a at 1 ; deed a", 3);
        faultAtLast("pane a plain keeps 1 sees 0 9 0", 3);
        faultAtLast("light 1 ; light", 3);
        faultAtLast("fades 1 ; fades", 3);
        DOC.says("4 a NUMBER that is not as told");
        faultAtLast("pane a plain keeps 7", 4);
        faultAtLast("pane a plain keeps 1 sees 10", 4);
        faultAtLast("person a at 10", 4);
        faultAtLast("deed a harm 100", 4);
        faultAtLast("light 2", 4);
        dayFaultAtLast("walk ann 10", 4);
    }

    private static void tooMany() {
        DOC.says("5 one too many: the words pane of a seventh, person of a sixth, deed of a sixth");
        fault(lines(PANE, 6) + "pane g plain keeps 1 sees 0 ;", 5, 6 * PANE.length() - 6);
        fault(lines(PERSON, 5) + "person f at 1 ;", 5, 5 * PERSON.length() - 5);
        fault(lines(DEED, 5) + "deed f harm 1 ;", 5, 5 * DEED.length() - 5);
        fault(lines(PANE, 6) + "pane", 5, 6 * PANE.length() - 6);
        stands(lines(PANE, 6) + lines(PERSON, 5).replace("person ", "person x") + lines(DEED, 5).replace("deed ", "deed y")
            + "light 0 0 0 0 0 0 0 0 0 0 0 0 ; fades 0 ;");
        DOC.says("a thirteenth NUMBER of light");
        faultAtLast("light 0 0 0 0 0 0 0 0 0 0 0 0 0", 5);
        faultAtLast("light 1 1 1 1 1 1 1 1 1 1 1 1 0001", 5);
        fault("light 0 0 0 0 0 0 0 0 0 0 0 0 0 0 0 ;", 5, 30);
        DOC.says("the first word of a 41st line of a DAY");
        dayFaultAtLast("hour ; ".repeat(40) + "hour", 5);
        dayFaultAtLast("hour ; ".repeat(40) + "walk", 5);
        DOC.says("not, or a PART, within 5 others.");
        faultAtLast("fades not not not not not not", 5);
        faultAtLast("fades not not not not not 1", 5);
        faultAtLast("fades ( ( ( ( ( (", 5);
        faultAtLast("fades ( ( ( ( ( not", 5);
        faultAtLast("fades ( ( ( ( ( bad", 5);
    }

    private static void newStreets() {
        DOC.says("Without a FAULT a STREET is the STREET from then on: hour 0, all at their CELLS, PANES whole, without MARKS, "
            + "curtains open, no DAY, nothing SAID, nothing can be undone, no NOTCH is there.");
        String other = "pane loft plain keeps 3 sees 2 ; pane hall plain keeps 3 sees 2 ; person ann at 2 ; deed sing harm 4 ;";
        String fresh = Check.state(Check.made(other));
        for (String text : new String[] {other, "", "&"}) {
            GlassStreet x = Check.made(other);
            x.does(0, 0);
            x.hour();
            x.walk(0, 3);
            x.curtain(0);
            x.stone(1);
            x.say(0, true);
            x.say(1, false);
            for (int notch = 0; notch < 4; notch++) {
                x.notch(notch, false);
            }
            Check.due("a day", 0, Check.day(x, "does ann sing ; wash loft ;"));
            String before = Check.state(x);
            boolean isWrong = text.equals("&");
            Check.due("street of " + text, isWrong ? Check.fault(1, 0) : 0, Check.street(x, text));
            Check.due("as it is", isWrong ? before : text.isEmpty() ? Check.state(new GlassStreet()) : fresh, Check.state(x));
            for (int notch = 0; notch < 4; notch++) {
                Check.due("a notch is there", isWrong, x.notch(notch, true));
            }
        }
        elderStreets();
        GlassStreet y = Check.made(other);
        y.hour();
        Check.due("an hour can be undone", 1, y.count(10));
        Check.due("told again", 0, Check.street(y, other));
        Check.due("nothing to undo", false, y.undo());
        y.say(1, true);
        y.notch(1, false);
        Check.due("told again", 0, Check.street(y, other));
        Check.due("all is possible", 1023, y.where());
        y.notch(2, false);
        Check.due("nothing on it", false, y.notch(1, true));
    }

    /** A small street behind two full ones: nothing of these is asked, seen or counted any more. */
    private static void elderStreets() {
        String full = lines("pane %s mirror keeps 6 sees 0 1 2 3 4 ; ", 6) + lines(PERSON, 5).replace("person ", "person x")
            + lines("deed %s harm 99 ; ", 5).replace("deed ", "deed y") + "light 0 0 0 0 0 0 0 0 0 0 0 0 ; fades 0 ;";
        String small = "pane p plain keeps 1 sees 0 ; person a at 0 ; deed d harm 3 ;";
        GlassStreet x = new GlassStreet();
        for (int i = 0; i < 2; i++) {
            Check.due("a full street", 0, Check.street(x, full));
            for (int j = 0; j < 6; j++) {
                x.does(j % 5, j % 5);
            }
            x.say(5, true);
            Check.due("36 marks", 36, x.count(5));
        }
        Check.due("a small street", 0, Check.street(x, small));
        GlassStreet y = Check.made(small);
        for (int done = 0; done < 2; done++) {
            Check.due("as of a new object", asked(y), asked(x));
            Check.due("and its state", Check.state(y), Check.state(x));
            Check.due("the deed", 1, y.does(0, 0));
            Check.due("the deed", 1, x.does(0, 0));
        }
    }

    /** Some answers to all that is asked of a whole street, 27 calls. */
    private static String asked(GlassStreet x) {
        int[] answers = {x.harm(), x.where(), x.ask(), x.eyes(), x.blind(), x.worst(), x.oldest(), x.young(99), x.memory(6),
            x.glass(1), x.hide(0, 1), x.dark(1), x.seen(0), x.trail(0), x.last(0), x.shame(0), x.shame(1), x.proof(0, 1),
            x.washes(0, 0), x.cloak(0, 0), x.run(0), x.run(1), x.twin(0, 1), x.person(1), x.years(7, 50, 0), x.years(7, 50, 1),
            x.years(7, 50, 2)};
        StringBuilder all = new StringBuilder();
        for (int answer : answers) {
            all.append(answer).append(' ');
        }
        return all.toString();
    }

    private static void newDays() {
        DOC.says("A DAY is the DAY.");
        GlassStreet x = Check.made(ROW);
        x.hour();
        x.say(0, true);
        x.notch(0, false);
        Check.due("a day", 0, Check.day(x, "hour ; hour ; hour ;"));
        Check.due("three lines", 3, x.count(8));
        Check.due("nothing is done by it", 1, x.count(3));
        Check.due("another", 0, Check.day(x, "walk ann 9 ;"));
        Check.due("one line", 1, x.count(8));
        Check.due("that can't be", 0, x.judged(0));
        Check.due("a wrong one", Check.fault(1, 7), Check.day(x, "hour ; pane"));
        Check.due("the day stays", 1, x.count(8));
        Check.due("that can't be", 0, x.judged(0));
        Check.due("an empty one", 0, x.day());
        Check.due("no line", 0, x.count(8));
        Check.due("none can't be", -1, x.judged(0));
        Check.due("what can be undone stays", 1, x.count(10));
        Check.due("what is said stays", 1, x.count(9));
        Check.due("notches stay", true, x.notch(0, true));
        DOC.says("At first: nothing.");
        GlassStreet y = new GlassStreet();
        Check.due("of all", "0 0 0 0 1 0 0 0 0 0 0 0 | | 1023 -1 0", Check.state(y));
        Check.due("hours alone make a day", 0, Check.day(y, "hour ; hour ;"));
        Check.due("two lines", 2, y.count(8));
    }
}
