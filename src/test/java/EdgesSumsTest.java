/** What sums, tests and words come to (promises 36, 39, 45): whole numbers of 64 bits that go round, and 0 elsewhere. */
public final class EdgesSumsTest {
    private static final int NONE = FilesOpened.NONE;
    /** Products of numbers of the language: 2 to the 63rd, and to the 64th. */
    private static final String TWO_63 = "4096*4096*4096*4096*4096*8";
    private static final String TWO_64 = "4096*4096*4096*4096*4096*16";
    private static final Due due = new Due();

    private EdgesSumsTest() {
    }

    public static void main(String[] args) {
        goRound();
        compareRound();
        leftToRight();
        signs();
        joinedFacts();
        wordsOfRead();
        sourcesOfCovers();
        wordsOfTurn();
        wordsOfNeed();
        elsewhereNought();
        firstClause();
        needOf();
        due.end();
    }

    private static void turn(String sum, long want) {
        FilesOpened x = new FilesOpened();
        x.sheet();
        x.reader(NONE, false);
        x.ask(0, 0);
        due.is("turn " + sum + " is a law", Due.law(x, "turn " + sum), 0);
        due.is("turn " + sum, x.turn(0), want);
    }

    private static void test(String test, boolean want) {
        FilesOpened x = new FilesOpened();
        x.sheet();
        x.line(0, 0, 1, 0);
        x.reader(NONE, false);
        x.cover(0);
        String law = "read let if " + test + "; need 5 if " + test;
        due.is(law, Due.law(x, law), 0);
        due.is("read by " + test, x.may(0, 0, 0), want ? 0 : 2);
        due.is("need by " + test, x.need(0, 0), want ? 5 : 99);
    }

    /** Sums as whole numbers of 64 bits that go round. */
    private static void goRound() {
        turn("4096*4096*4096*4096*4096", 1L << 60);
        turn(TWO_63 + "-1", Long.MAX_VALUE);
        turn(TWO_63, Long.MIN_VALUE);
        turn(TWO_63 + "-1+1", Long.MIN_VALUE);
        turn("0-" + TWO_63, Long.MIN_VALUE);
        turn("0-" + TWO_63 + "-1", Long.MAX_VALUE);
        turn("0-(" + TWO_63 + "-1)", -Long.MAX_VALUE);
        turn(TWO_63 + "+" + TWO_63, 0);
        turn(TWO_63 + "*2", 0);
        turn(TWO_63 + "*3", Long.MIN_VALUE);
        turn(TWO_64, 0);
        turn(TWO_64 + "+7", 7);
        turn("(" + TWO_63 + "-1)*2", -2);
        turn("(" + TWO_63 + "-1)*(" + TWO_63 + "-1)", 1);
        turn("(0-1)*" + TWO_63, Long.MIN_VALUE);
        long all = 1;
        StringBuilder product = new StringBuilder("9999");
        for (int i = 0; i < 78; i++) {
            all *= 9999;
            product.append("*9999");
        }
        turn(product.toString(), all * 9999);
    }

    private static void compareRound() {
        test(TWO_63 + "<0", true);
        test(TWO_63 + "-1>0", true);
        test(TWO_63 + "-1>" + TWO_63, true);
        test(TWO_63 + "<=" + TWO_63 + "-1", true);
        test(TWO_63 + "=0-" + TWO_63, true);
        test(TWO_64 + "=0", true);
        test(TWO_64 + "<1", true);
        test("4096*4096*4096*4096*4096*4>4096*4096*4096*4096*4096", true);
        test("4096*4096*4096=0", false);
        test("4096*4096*4096*4096*4096*4=0", false);
    }

    /** SUM: TERM { (+ or -) TERM }. TERM: VALUE { * VALUE }. */
    private static void leftToRight() {
        turn("9-4-3", 2);
        turn("9-(4-3)", 8);
        turn("9-4+3", 8);
        turn("9-(4+3)", 2);
        turn("2+3*4", 14);
        turn("2*3+4", 10);
        turn("(2+3)*4", 20);
        turn("2*(3+4)", 14);
        turn("20-2*3*2-1", 7);
        turn("1-2*3", -5);
        turn("((1))-((((((((((2))))))))))", -1);
        turn("0000+0009", 9);
        turn("9999+1", 10000);
    }

    /** SIGN one of < <= = >= >. */
    private static void signs() {
        String[] names = {"<", "<=", "=", ">=", ">"};
        boolean[][] want = {{true, false, false}, {true, true, false}, {false, true, false}, {false, true, true},
            {false, false, true}};
        for (int i = 0; i < names.length; i++) {
            test("4" + names[i] + "5", want[i][0]);
            test("5" + names[i] + "5", want[i][1]);
            test("6" + names[i] + "5", want[i][2]);
            test("0-6" + names[i] + "0-5", want[i][0]);
            test("0-5" + names[i] + "0-5", want[i][1]);
            test("0-4" + names[i] + "0-5", want[i][2]);
            for (int left = 4; left <= 6; left++) {
                boolean is = want[i][left - 4];
                String fact = left + names[i] + "5";
                test("not " + fact, !is);
                test(fact + " and 1=1", is);
                test("1=2 or " + fact, is);
                test("not [not " + fact + "] and not 1=2", is);
            }
        }
    }

    /** TEST: PART { or PART }. PART: FACT { and FACT }. FACT: not FACT | [ TEST ]. */
    private static void joinedFacts() {
        for (int bits = 0; bits < 8; bits++) {
            boolean a = (bits & 1) != 0;
            boolean b = (bits & 2) != 0;
            boolean c = (bits & 4) != 0;
            String p = a ? "1=1" : "1=2";
            String q = b ? "2=2" : "2=3";
            String r = c ? "3=3" : "3=4";
            test(p + " and " + q + " or " + r, a && b || c);
            test(p + " or " + q + " and " + r, a || b && c);
            test("[" + p + " or " + q + "] and " + r, (a || b) && c);
            test(p + " and [" + q + " or " + r + "]", a && (b || c));
            test("not " + p + " and " + q + " or not " + r, !a && b || !c);
            test("not [" + p + " and " + q + "] and " + r, !(a && b) && c);
            test("not not " + p + " or " + q + " or " + r, a || b || c);
            test(p + " and " + q + " and not not not " + r, a && b && !c);
        }
    }

    /** Persons 0 to 3, of whom 2 is sure of both covers; a line that names 0 to 2; reader 0 is person 0. */
    private static FilesOpened house() {
        FilesOpened x = new FilesOpened();
        for (int i = 0; i < 4; i++) {
            x.person(NONE);
        }
        x.cover(0);
        x.cover(1);
        x.clock(3);
        x.sheet();
        x.sheet();
        x.line(0, 7, 1, 0);
        x.open(1);
        for (int person = 0; person < 4; person++) {
            if (person != 2) {
                x.report(1, 0, person, 0, 0, 0, 0);
                x.report(1, 1, person, 0, 0, 0, 0);
            }
        }
        x.bill(1, 0, 5, 0);
        x.reader(0, true);
        x.reader(NONE, false);
        x.reader(3, false);
        return x;
    }

    private static void word(FilesOpened x, int reader, String word, int want) {
        String law = "read let if " + word + "=" + want;
        due.yes(law, Due.law(x, law) >= 0);
        due.is(word + " of reader " + reader + " is " + want, x.may(reader, 0, 0), 0);
    }

    /** Of a LINE, of a SHEET, of a reader: in read. */
    private static void wordsOfRead() {
        FilesOpened x = house();
        word(x, 0, "self", 1);
        word(x, 1, "self", 0);
        word(x, 2, "self", 0);
        word(x, 0, "third", 2);
        word(x, 1, "third", 3);
        word(x, 0, "source", 1);
        word(x, 0, "age", 0);
        word(x, 0, "lines", 1);
        word(x, 0, "press", 1);
        word(x, 1, "press", 0);
        word(x, 0, "waits+asked", 0);
        x.clock(8);
        word(x, 0, "age", 5);
        x.ask(0, 1);
        word(x, 0, "waits", 0);
        word(x, 0, "asked", 0);
        x.clock(10);
        FilesOpened y = house();
        y.ask(0, 1);
        y.clock(9);
        word(y, 0, "waits", 6);
        word(y, 0, "asked", 0);
        y.call();
        word(y, 0, "waits", 0);
        word(y, 0, "asked", 1);
        y.ask(0, 0);
        word(y, 0, "asked", 1);
        word(y, 0, "day", 9);
        y.line(0, 0, 1, 0);
        word(y, 0, "lines", 2);
        FilesOpened z = house();
        word(z, 2, "source", 1);
        z.person(NONE);
        word(z, 2, "source", 0);
        z.report(1, 1, 4, 0, 0, 0, 0);
        word(z, 2, "source", 1);
        z.open(0);
        z.report(0, 1, 2, 0, 0, 0, 0);
        word(z, 2, "source", 0);
        FilesOpened own = house();
        own.reader(2, false);
        word(own, 3, "third", 2);
        word(own, 3, "source", 0);
    }

    /** How many of these are SURE of some COVER: of the first, of the last, of several. */
    private static void sourcesOfCovers() {
        FilesOpened x = new FilesOpened();
        for (int i = 0; i < 3; i++) {
            x.person(NONE);
        }
        for (int i = 0; i < 4; i++) {
            x.cover(i);
        }
        x.sheet();
        x.line(0, 7, 1, 0);
        x.open(0);
        x.reader(NONE, false);
        word(x, 0, "source", 0);
        int[] sureOf = {0, 1, 1, 2};
        int[] want = {1, 2, 2, 3};
        for (int cover = 0; cover < 4; cover++) {
            for (int person = 0; person < 3; person++) {
                if (person != sureOf[cover]) {
                    x.report(0, cover, person, 0, 0, 0, 0);
                }
            }
            word(x, 0, "source", want[cover]);
        }
        x.clock(1);
        x.fall(0);
        word(x, 0, "source", 2);
        x.fall(2);
        word(x, 0, "source", 2);
        x.fall(4);
        word(x, 0, "source", 1);
    }

    /** Of a SHEET (for which he waits), of a reader: in turn. */
    private static void wordsOfTurn() {
        FilesOpened x = house();
        due.is("law", Due.law(x, "turn (age*10+lines)*5000*2+press*1000+waits*100+asked*10+day"), 0);
        x.ask(0, 0);
        due.is("on the day", x.turn(0), 11003);
        x.clock(4);
        due.is("a day later", x.turn(0), 111104);
        x.open(0);
        x.call();
        x.ask(0, 1);
        due.is("of sheet 1, asked once before", x.turn(0), 101014);
        x.ask(1, 1);
        due.is("not of the press", x.turn(1), 100004);
        x.clock(3999);
        due.is("on the last day", x.turn(1), 3996 * 100000 + 3995 * 100 + 3999);
    }

    /** Of a COVER: in need; as KNOWN on the DAY that is looked at. */
    private static void wordsOfNeed() {
        FilesOpened x = house();
        due.is("law", Due.law(x, "need 31 if reports=3 and bills=1; need 30 if reports=3 and bills=0;"
            + "need 0 if reports+bills=0; need 21 if reports=2 and bills=1; need 98 if day=3999 and reports=4"), 0);
        due.is("both", x.need(0, 3), 31);
        due.is("without a bill", x.need(1, 3), 30);
        x.clock(5);
        x.fall(0);
        due.is("one fell", x.need(0, 5), 21);
        due.is("the day ahead", x.need(0, 4), 31);
        x.clock(6);
        x.tear(1);
        due.is("torn", x.need(0, 6), 0);
        due.is("torn, the day ahead", x.need(0, 5), 21);
        x.open(0);
        for (int i = 0; i < 4; i++) {
            x.report(0, 1, 0, 0, 0, 0, 0);
        }
        due.is("the last day", x.need(1, 3999), 98);
        due.is("the day ahead of the last", x.need(1, 3998), 99);
        FilesOpened y = house();
        due.is("day law", Due.law(y, "need 7 if day=3; need 8 if day=9; need 9 if day=3999"), 0);
        y.clock(5);
        due.is("the day that is looked at", y.need(0, 9), 8);
        due.is("a day gone by", y.need(0, 3), 7);
        due.is("not now", y.need(0, 5), 99);
        due.is("the last day that is looked at", y.need(0, 3999), 9);
    }

    /** Elsewhere a WORD is 0. */
    private static void elsewhereNought() {
        FilesOpened x = house();
        x.ask(0, 1);
        x.clock(4);
        x.call();
        x.clock(5);
        x.ask(0, 0);
        x.clock(7);
        due.is("law", Due.law(x, "turn self+third+source+reports+bills; need 1 if self=0 and third=0 and source=0;"
            + "need 2 if 1=1"), 0);
        x.may(0, 0, 0);
        due.is("in turn", x.turn(0), 0);
        due.is("of a line, in need", x.need(0, 7), 1);
        due.is("law", Due.law(x, "need 1 if age=0 and lines=0 and press=0 and waits=0 and asked=0; need 2 if 1=1;"
            + "read let if reports=0 and bills=0"), 1);
        x.turn(0);
        due.is("of a sheet and a reader, in need", x.need(0, 7), 1);
        due.is("of a cover, in read", x.may(0, 0, 0), 0);
        x.need(0, 7);
        due.is("in read again", x.may(0, 0, 0), 0);
    }

    /** By the first CLAUSE whose TEST is true; without one, or without a LAW: 2, 99, 0. */
    private static void firstClause() {
        FilesOpened x = house();
        x.ask(0, 0);
        due.is("no law, read", x.may(0, 0, 0), 2);
        due.is("no law, need", x.need(0, 3), 99);
        due.is("no law, turn", x.turn(0), 0);
        due.is("law", Due.law(x, "turn 1; turn 2; read bar if 1=2; read black if 1=1; read let if 1=1;"
            + "need 3 if 1=2; need 4 if 1=1; need 5 if 1=1"), 0);
        due.is("read", x.may(0, 0, 0), 1);
        due.is("why", x.why(), 3);
        due.is("need", x.need(0, 3), 4);
        due.is("turn", x.turn(0), 1);
        due.is("none is true", Due.law(x, "read let if 1=2; need 4 if 1=2"), 1);
        due.is("read without one", x.may(0, 0, 0), 2);
        due.is("why without one", x.why(), NONE);
        due.is("need without one", x.need(0, 3), 99);
        due.is("turn without one", x.turn(0), 0);
        x.clock(9);
        Due.write(x, "turn 8");
        due.is("a law of a later day", x.law(10), 2);
        due.is("not yet in force", x.turn(0), 0);
        x.clock(10);
        due.is("in force", x.turn(0), 8);
    }

    /** 45: NEED by the NUMBER, 0 to 99, of the LAW in force on that DAY. */
    private static void needOf() {
        FilesOpened x = new FilesOpened();
        x.cover(0);
        for (int number : new int[] {0, 1, 98, 99}) {
            Due.write(x, "need " + number + " if 1=1");
            due.yes("law", x.law(0) >= 0);
            due.is("need " + number, x.need(0, 0), number);
        }
        x.clock(5);
        Due.write(x, "need 50 if 1=1");
        x.law(8);
        due.is("the day ahead", x.need(0, 7), 99);
        due.is("from its day on", x.need(0, 8), 50);
        due.is("a law of 0 digits ahead", Due.law(x, "need 0007 if 1=1"), 5);
        due.is("need 0007", x.need(0, 5), 7);
        due.is("the day ahead of that", x.need(0, 4), 99);
    }
}
