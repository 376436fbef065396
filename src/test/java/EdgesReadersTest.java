/** Promises 34 to 42, a sentence of the document at a time: its edges, its ties, and what falls or is torn. */
public final class EdgesReadersTest {
    private static final int NONE = FilesOpened.NONE;
    private static final Due due = new Due();

    private EdgesReadersTest() {
    }

    public static void main(String[] args) {
        namedPersons();
        lengthsAndWords();
        whoReads();
        mayOfAnySheet();
        toldLastByMay();
        oneAskingAtATime();
        tornWhileHeWaits();
        turnOfWhoWaits();
        openAndNotTorn();
        greatestTurn();
        whoAskedFirst();
        asHeMayWhileHeWaits();
        whatHeWasTold();
        toldToSeveral();
        toldStays();
        theMostOfSeveral();
        wordsOfAllLines();
        aFurtherSheet();
        togetherNow();
        due.end();
    }

    private static FilesOpened house(int persons, int sheets, int readers) {
        FilesOpened x = new FilesOpened();
        for (int i = 0; i < persons; i++) {
            x.person(NONE);
        }
        for (int i = 0; i < sheets; i++) {
            x.sheet();
        }
        for (int i = 0; i < readers; i++) {
            x.reader(NONE, false);
        }
        x.cover(0);
        return x;
    }

    private static void law(FilesOpened x, String text) {
        int number = x.count(10);
        due.is(text, Due.law(x, text), number);
    }

    /** 34: named: PERSON p is bit p. */
    private static void namedPersons() {
        FilesOpened none = house(0, 1, 0);
        due.is("nobody is named", none.line(0, 0, 1, 0), 0);
        due.is("person 0 of none", none.line(0, 1, 1, 0), NONE);
        for (int persons = 1; persons <= 60; persons++) {
            FilesOpened x = house(persons, 1, 0);
            due.is("the last of " + persons, x.line(0, 1L << persons - 1, 1, 0), 0);
            due.is("all " + persons, x.line(0, (1L << persons) - 1, 1, 0), 1);
            due.is("the next of " + persons, x.line(0, 1L << persons, 1, 0), NONE);
            due.is("the next and person 0 of " + persons, x.line(0, 1L << persons | 1, 1, 0), NONE);
        }
        FilesOpened x = house(60, 1, 0);
        due.is("bit 61", x.line(0, 1L << 61, 1, 0), NONE);
        due.is("bit 63", x.line(0, Long.MIN_VALUE, 1, 0), NONE);
        due.is("all bits", x.line(0, -1, 1, 0), NONE);
        due.is("no line came", x.sheets(0, 4), 0);
    }

    /** A length (1 to 200) and a WORD (0 to 999999): as they are told. */
    private static void lengthsAndWords() {
        FilesOpened x = house(1, 2, 1);
        x.line(0, 0, 1, 0);
        x.line(0, 0, 200, 999999);
        x.line(0, 1, 1, 0);
        x.line(0, 1, 200, 999999);
        law(x, "read let if third=0; read black if third=1");
        x.open(0);
        x.ask(0, 0);
        x.call();
        int[] want = {0, 999999, -3, -202};
        for (int line = 0; line < 4; line++) {
            due.is("told line " + line, x.told(0, 0, line), want[line]);
        }
        x.tear(1);
        due.is("a line of a torn sheet", x.line(1, 0, 1, 0), NONE);
        due.is("a line of none", x.line(2, 0, 1, 0), NONE);
        due.is("of an open sheet", x.line(0, 0, 1, 0), 4);
    }

    /** 35: a PERSON or NONE; several readers may be one person. */
    private static void whoReads() {
        FilesOpened x = house(2, 1, 0);
        due.is("nobody", x.reader(NONE, true), 0);
        due.is("person 1", x.reader(1, false), 1);
        due.is("person 1 again", x.reader(1, true), 2);
        due.is("person 2", x.reader(2, false), NONE);
        due.is("person -2", x.reader(-2, false), NONE);
        x.line(0, 3, 1, 0);
        law(x, "read let if self=1 and press=1; read black if self=1");
        due.is("nobody is not named", x.may(0, 0, 0), 2);
        due.is("person 1 is", x.may(1, 0, 0), 1);
        due.is("of the press", x.may(2, 0, 0), 0);
    }

    /** 36: a LINE of a SHEET (not TORN), open or closed. */
    private static void mayOfAnySheet() {
        FilesOpened x = house(1, 3, 1);
        x.line(0, 0, 1, 0);
        x.line(1, 0, 1, 0);
        law(x, "read let if 1=1");
        due.is("closed", x.may(0, 0, 0), 0);
        x.open(0);
        due.is("open", x.may(0, 0, 0), 0);
        x.tear(0);
        due.is("torn", x.may(0, 0, 0), NONE);
        x.tear(1);
        due.is("torn, never open", x.may(0, 1, 0), NONE);
        due.is("no line", x.may(0, 2, 0), NONE);
        due.is("no sheet", x.may(0, 3, 0), NONE);
        due.is("no reader", x.may(1, 2, 0), NONE);
    }

    /** 37: the CLAUSE by which may() told it last (its number among all of the LAW, from 0 on); NONE: none. */
    private static void toldLastByMay() {
        FilesOpened x = house(2, 1, 1);
        due.is("nothing told", x.why(), NONE);
        x.line(0, 0, 1, 0);
        x.line(0, 1, 1, 0);
        x.line(0, 2, 1, 0);
        x.line(0, 3, 1, 0);
        due.is("no law", x.may(0, 0, 0), 2);
        due.is("by no law", x.why(), NONE);
        law(x, "read bar if third=0;need 1 if 1=1;turn 1" + ";need 1 if 1=1".repeat(8) + ";read let if third=2");
        due.is("the first", x.may(0, 0, 0), 2);
        due.is("clause 0", x.why(), 0);
        due.is("the twelfth", x.may(0, 0, 3), 0);
        due.is("clause 11", x.why(), 11);
        due.is("refused", x.may(0, 0, 4), NONE);
        due.is("clause 11 still", x.why(), 11);
        x.open(0);
        x.ask(0, 0);
        x.turn(0);
        x.need(0, 0);
        x.call();
        due.is("may() alone tells it", x.why(), 11);
        due.is("none is true", x.may(0, 0, 1), 2);
        due.is("by none", x.why(), NONE);
    }

    /** 38: a reader has one asking at a time. */
    private static void oneAskingAtATime() {
        FilesOpened x = house(0, 2, 2);
        law(x, "turn waits*10+asked");
        due.yes("ask", x.ask(0, 0));
        x.clock(2);
        due.no("for the same", x.ask(0, 0));
        due.no("for another", x.ask(0, 1));
        due.is("nothing happened", x.turn(0), 20);
        due.is("one waits", x.count(12), 1);
        due.yes("another reader for the same", x.ask(1, 0));
        due.is("two wait", x.count(12), 2);
        x.open(0);
        due.is("called", x.call(), 0);
        due.is("one waits again", x.count(12), 1);
        due.yes("he asks again", x.ask(0, 0));
        due.is("asked once before", x.turn(0), 1);
        x.tear(1);
        due.is("his turn is the greater", x.call(), 0);
        due.is("the other", x.call(), 1);
        due.no("for a torn sheet", x.ask(1, 1));
        due.no("for none", x.ask(1, 2));
        due.no("no reader", x.ask(2, 0));
    }

    /** Nothing ends an asking but the call, and no torn sheet is called. */
    private static void tornWhileHeWaits() {
        FilesOpened x = house(0, 3, 1);
        law(x, "turn 5");
        x.open(0);
        x.ask(0, 0);
        x.tear(0);
        due.is("nobody is called", x.call(), NONE);
        due.is("he waits", x.count(12), 1);
        due.is("his turn", x.turn(0), 5);
        due.no("he waits already", x.ask(0, 1));
    }

    /** 39: -9223372036854775808 without one who waits. */
    private static void turnOfWhoWaits() {
        FilesOpened x = house(0, 1, 1);
        law(x, "turn 5");
        due.is("he does not wait", x.turn(0), Long.MIN_VALUE);
        due.is("no reader", x.turn(1), Long.MIN_VALUE);
        x.ask(0, 0);
        due.is("he waits for a closed one", x.turn(0), 5);
        x.open(0);
        due.is("he waits", x.turn(0), 5);
        x.call();
        due.is("he waits no more", x.turn(0), Long.MIN_VALUE);
    }

    /** CALLED: of those who wait for a SHEET that is open and not TORN. */
    private static void openAndNotTorn() {
        FilesOpened x = house(0, 3, 3);
        law(x, "turn 0");
        due.is("nobody waits", x.call(), NONE);
        x.ask(0, 0);
        x.ask(1, 1);
        x.ask(2, 2);
        due.is("all are closed", x.call(), NONE);
        x.open(0);
        x.tear(0);
        x.open(2);
        due.is("the only open one", x.call(), 2);
        due.is("no other", x.call(), NONE);
        x.open(1);
        due.is("opened", x.call(), 1);
        due.is("the torn one is left", x.count(12), 1);
    }

    /** The one with the greatest TURN (on NOW): as 64 bits with their sign. */
    private static void greatestTurn() {
        FilesOpened x = house(0, 5, 5);
        for (int sheet = 0; sheet < 5; sheet++) {
            x.open(sheet);
            for (int line = 0; line < sheet; line++) {
                x.line(sheet, 0, 1, 0);
            }
        }
        for (int reader = 0; reader < 5; reader++) {
            x.ask(reader, (reader + 2) % 5);
        }
        law(x, "turn lines-2");
        due.is("4 lines", x.call(), 2);
        due.is("3 lines", x.call(), 1);
        law(x, "turn 0-lines");
        due.is("0 lines", x.call(), 3);
        law(x, "turn 4096*4096*4096*4096*4096*8-lines");
        due.is("2 lines, round to the greatest", x.turn(0), Long.MAX_VALUE - 1);
        due.is("1 line is greater", x.call(), 4);
        law(x, "turn 4096*4096*4096*4096*4096*8");
        due.is("the least of all numbers", x.turn(0), Long.MIN_VALUE);
        due.is("he is called, too", x.call(), 0);
    }

    /** Of several who asked first, of one DAY the least reader. */
    private static void whoAskedFirst() {
        FilesOpened x = house(0, 2, 5);
        law(x, "turn 0");
        x.open(0);
        x.ask(4, 0);
        x.clock(1);
        x.ask(3, 0);
        x.ask(1, 0);
        x.clock(2);
        x.ask(0, 0);
        x.ask(2, 0);
        int[] want = {4, 1, 3, 0, 2, NONE};
        for (int reader : want) {
            due.is("called", x.call(), reader);
        }
        FilesOpened y = house(0, 1, 3);
        y.open(0);
        y.ask(2, 0);
        y.ask(0, 0);
        y.ask(1, 0);
        for (int reader = 0; reader < 3; reader++) {
            due.is("of one day, without a law", y.call(), reader);
        }
        FilesOpened z = house(0, 1, 2);
        law(z, "turn waits");
        z.ask(1, 0);
        z.clock(4);
        z.open(0);
        z.ask(0, 0);
        due.is("the turn goes ahead of the number", z.call(), 1);
        FilesOpened w = house(0, 1, 2);
        law(w, "turn 0-waits");
        w.ask(1, 0);
        w.clock(4);
        w.open(0);
        w.ask(0, 0);
        due.is("the turn goes ahead of who asked first", w.call(), 0);
    }

    /** He is TOLD the SHEET, as he may READ it while he still waits. */
    private static void asHeMayWhileHeWaits() {
        FilesOpened x = house(0, 1, 1);
        x.line(0, 0, 1, 44);
        law(x, "read let if waits=3 and asked=0");
        x.open(0);
        x.ask(0, 0);
        x.clock(3);
        due.is("he may", x.may(0, 0, 0), 0);
        due.is("called", x.call(), 0);
        due.is("told", x.told(0, 0, 0), 44);
        due.is("he may not any more", x.may(0, 0, 0), 2);
        due.is("told still", x.told(0, 0, 0), 44);
    }

    /** For each LINE its WORD if let; its length alone if black; nothing if barred. */
    private static void whatHeWasTold() {
        FilesOpened x = house(2, 2, 2);
        x.line(0, 0, 7, 70);
        x.line(0, 1, 8, 80);
        x.line(0, 3, 9, 90);
        x.line(1, 0, 10, 100);
        law(x, "read let if third=0; read black if third=1");
        x.open(0);
        x.open(1);
        due.is("not told", x.told(0, 0, 0), NONE);
        x.ask(0, 0);
        due.is("waiting is not being told", x.told(0, 0, 0), NONE);
        x.call();
        due.is("let", x.told(0, 0, 0), 70);
        due.is("black", x.told(0, 0, 1), -10);
        due.is("barred", x.told(0, 0, 2), NONE);
        due.is("no line", x.told(0, 0, 3), NONE);
        due.is("line -1", x.told(0, 0, -1), NONE);
        due.is("another sheet", x.told(0, 1, 0), NONE);
        due.is("another reader", x.told(1, 0, 0), NONE);
        FilesOpened y = house(0, 1, 1);
        y.line(0, 0, 7, 70);
        y.open(0);
        y.ask(0, 0);
        due.is("called without a law", y.call(), 0);
        due.is("barred without a law", y.told(0, 0, 0), NONE);
    }

    /** What one is TOLD takes nothing from the others, whatever their numbers. */
    private static void toldToSeveral() {
        FilesOpened x = house(2, 1, 30);
        x.line(0, 0, 7, 70);
        x.line(0, 1, 8, 80);
        x.line(0, 3, 9, 90);
        x.open(0);
        law(x, "read let if third=0; read black if third=1");
        int[] asking = {29, 3, 17};
        for (int reader : asking) {
            x.ask(reader, 0);
            due.is("called", x.call(), reader);
        }
        for (int reader = 0; reader < 30; reader++) {
            boolean was = reader == 29 || reader == 3 || reader == 17;
            due.is("let, reader " + reader, x.told(reader, 0, 0), was ? 70 : NONE);
            due.is("black, reader " + reader, x.told(reader, 0, 1), was ? -10 : NONE);
            due.is("barred, reader " + reader, x.told(reader, 0, 2), NONE);
        }
    }

    /** What he was TOLD stays TOLD. */
    private static void toldStays() {
        FilesOpened x = house(0, 1, 1);
        x.line(0, 0, 7, 70);
        law(x, "read let if 1=1");
        x.open(0);
        x.ask(0, 0);
        x.call();
        law(x, "read bar if 1=1");
        due.is("another law", x.told(0, 0, 0), 70);
        x.ask(0, 0);
        x.call();
        due.is("barred since", x.told(0, 0, 0), 70);
        x.line(0, 0, 8, 80);
        due.is("a later line", x.told(0, 0, 1), NONE);
        x.clock(5);
        x.tear(0);
        due.is("torn", x.told(0, 0, 0), 70);
        due.is("a line of the torn one that was not told", x.told(0, 0, 1), NONE);
    }

    /** 41: of several tellings the one that told most: a WORD, else a length. */
    private static void theMostOfSeveral() {
        int[][] rows = {{2, 2, NONE}, {2, 1, -9}, {1, 2, -9}, {1, 1, -9}, {1, 0, 70}, {0, 1, 70}, {2, 0, 70}, {0, 2, 70},
            {0, 0, 70}};
        String[] verbs = {"let", "black", "bar"};
        for (int[] row : rows) {
            FilesOpened x = house(0, 1, 1);
            x.line(0, 0, 7, 70);
            x.open(0);
            for (int i = 0; i < 2; i++) {
                law(x, "read " + verbs[row[i]] + " if 1=1");
                x.ask(0, 0);
                x.call();
            }
            due.is(verbs[row[0]] + ", then " + verbs[row[1]], x.told(0, 0, 0), row[2]);
        }
    }

    /** 42: REPORTS that are KNOWN and of SHEETS of which he was TOLD the WORDS of all LINES (one at least). */
    private static void wordsOfAllLines() {
        FilesOpened x = house(4, 2, 2);
        x.open(0);
        x.open(1);
        x.report(0, 0, 0, 0, 1, 10, 10);
        x.report(1, 0, 1, 0, 1, 10, 10);
        due.is("told nothing", x.together(0, 0, NONE), 4);
        law(x, "read let if 1=1");
        x.ask(0, 0);
        x.call();
        due.is("a sheet without lines", x.together(0, 0, NONE), 4);
        x.line(0, 0, 7, 70);
        due.is("one line, not told", x.together(0, 0, NONE), 4);
        x.ask(0, 0);
        x.call();
        due.is("the only line", x.together(0, 0, NONE), 3);
        due.is("another reader", x.together(1, 0, NONE), 4);
        x.line(0, 1, 7, 70);
        due.is("a further line, not told", x.together(0, 0, NONE), 4);
        law(x, "read black if third=1; read let if 1=1");
        x.ask(0, 0);
        x.call();
        due.is("its length alone", x.together(0, 0, NONE), 4);
        law(x, "read let if third=1");
        x.ask(0, 0);
        x.call();
        due.is("the words of both, by several tellings", x.together(0, 0, NONE), 3);
        x.line(1, 0, 7, 70);
        law(x, "read let if 1=1");
        x.ask(0, 1);
        x.call();
        due.is("both sheets", x.together(0, 0, NONE), 2);
        x.fall(1);
        due.is("a report fell", x.together(0, 0, NONE), 3);
        x.tear(0);
        due.is("a sheet was torn", x.together(0, 0, NONE), 4);
    }

    /** And how many, if the REPORTS of a further SHEET that did not FALL (open or not) came to these. */
    private static void aFurtherSheet() {
        FilesOpened x = house(5, 4, 1);
        x.cover(0);
        x.report(0, 0, 0, 0, 1, 10, 10);
        x.report(1, 0, 1, 0, 1, 10, 10);
        x.report(1, 1, 2, 0, 1, 10, 10);
        x.report(2, 0, 3, 0, 1, 10, 10);
        x.report(2, 0, 4, 0, 1, 10, 10);
        x.line(0, 0, 1, 1);
        law(x, "read let if 1=1");
        x.open(0);
        x.ask(0, 0);
        x.call();
        due.is("sheet 0 alone", x.together(0, 0, NONE), 4);
        due.is("sheet 0 is among them", x.together(0, 0, 0), 4);
        due.is("a closed one", x.together(0, 0, 1), 3);
        due.is("a closed one with two", x.together(0, 0, 2), 2);
        due.is("one without reports", x.together(0, 0, 3), 4);
        due.is("by another cover", x.together(0, 1, 1), 4);
        x.open(2);
        due.is("open, not told", x.together(0, 0, NONE), 4);
        due.is("open, a further one", x.together(0, 0, 2), 2);
        x.fall(3);
        due.is("one of its reports fell", x.together(0, 0, 2), 3);
        x.tear(1);
        due.is("torn", x.together(0, 0, 1), 4);
        due.is("none such", x.together(0, 0, 4), NONE);
        due.is("sheet -2", x.together(0, 0, -2), NONE);
        due.is("no cover", x.together(0, 2, NONE), NONE);
        due.is("no reader", x.together(1, 0, NONE), NONE);
    }

    /** NOW, by what is KNOWN as SEEN; CANDIDATES by those REPORTS alone. */
    private static void togetherNow() {
        FilesOpened x = house(4, 2, 1);
        x.line(0, 0, 1, 1);
        law(x, "read let if 1=1");
        x.open(0);
        x.open(1);
        x.report(0, 0, 0, 0, 1, 10, 10);
        x.report(1, 0, 1, 0, 1, 10, 10);
        x.ask(0, 0);
        x.call();
        due.is("all that is known", x.candidate(0, 0, NONE), 2);
        due.is("what he was told", x.together(0, 0, NONE), 3);
        x.clock(1);
        x.seen(2, 2, 10, 10);
        due.is("a sighting, though nobody told him", x.together(0, 0, NONE), 2);
        x.unsee(0);
        due.is("it fell", x.together(0, 0, NONE), 3);
        x.seen(0, 1, 10, 10);
        x.person(NONE);
        due.is("a further person", x.together(0, 0, NONE), 4);
    }
}
