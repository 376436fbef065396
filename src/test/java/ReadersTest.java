/** Promises 34 to 42: lines, readers, what they may read, asking, calling, telling, putting together. */
public final class ReadersTest {
    private static final Due due = new Due();

    public static void main(String[] args) {
        lines();
        readers();
        reading();
        words();
        sources();
        asking();
        calling();
        telling();
        together();
        due.end();
    }

    private static void lines() {
        FilesOpened x = new FilesOpened();
        x.person(-1);
        x.person(-1);
        x.sheet();
        x.sheet();
        x.tear(1);
        due.is("no sheet", x.line(2, 0, 1, 0), -1);
        due.is("torn", x.line(1, 0, 1, 0), -1);
        due.is("no such person", x.line(0, 4, 1, 0), -1);
        due.is("bit 63", x.line(0, 1L << 63, 1, 0), -1);
        due.is("bit 60", x.line(0, 1L << 60, 1, 0), -1);
        due.is("length 0", x.line(0, 0, 0, 0), -1);
        due.is("length 201", x.line(0, 0, 201, 0), -1);
        due.is("word -1", x.line(0, 0, 1, -1), -1);
        due.is("word 1000000", x.line(0, 0, 1, 1000000), -1);
        for (int i = 0; i < 20; i++) {
            due.is("line " + i, x.line(0, i % 4, i % 2 == 0 ? 1 : 200, i % 2 == 0 ? 0 : 999999), i);
        }
        due.is("line 20", x.line(0, 0, 1, 0), -1);
        due.is("lines", x.sheets(0, 4), 20);
        due.is("of another sheet", x.line(x.sheet(), 3, 1, 0), 0);
    }

    private static void readers() {
        FilesOpened x = new FilesOpened();
        x.person(-1);
        due.is("no person", x.reader(1, false), -1);
        due.is("person -2", x.reader(-2, false), -1);
        for (int i = 0; i < 30; i++) {
            due.is("reader " + i, x.reader(i % 2 - 1, true), i);
        }
        due.is("reader 30", x.reader(0, false), -1);
    }

    private static FilesOpened house(String law) {
        FilesOpened x = new FilesOpened();
        for (int i = 0; i < 4; i++) {
            x.person(-1);
        }
        x.sheet();
        x.line(0, 3, 10, 100);
        x.line(0, 6, 20, 200);
        x.reader(0, false);
        x.reader(-1, true);
        if (!law.isEmpty()) {
            due.is(law, Due.law(x, law), 0);
        }
        return x;
    }

    private static void reading() {
        FilesOpened x = house("");
        due.is("why at first", x.why(), -1);
        due.is("without a law", x.may(0, 0, 0), 2);
        due.is("why without a law", x.why(), -1);
        x = house("need 1 if 1=1; read let if self=1; turn 5; read bar if third=2; read black if 1=1");
        due.is("let", x.may(0, 0, 0), 0);
        due.is("why let", x.why(), 1);
        due.is("bar", x.may(1, 0, 0), 2);
        due.is("why bar", x.why(), 3);
        due.is("no reader", x.may(2, 0, 0), -1);
        due.is("reader -1", x.may(-1, 0, 0), -1);
        due.is("no sheet", x.may(0, 1, 0), -1);
        due.is("no line", x.may(0, 0, 2), -1);
        due.is("line -1", x.may(0, 0, -1), -1);
        due.is("it was told last by", x.why(), 3);
        x.line(0, 1, 5, 5);
        due.is("black", x.may(1, 0, 2), 1);
        due.is("why black", x.why(), 4);
        x.ask(0, 0);
        x.open(0);
        x.call();
        due.is("a telling is no may()", x.why(), 4);
        x.clock(3);
        Due.law(x, "read let if self=2");
        due.is("by the law in force now", x.may(0, 0, 0), 2);
        due.is("no clause", x.why(), -1);
        x.tear(0);
        due.is("torn", x.may(0, 0, 0), -1);
    }

    /** What a word is worth, as the need of a test that counts it up to 9. */
    private static void word(FilesOpened x, String word, int reader, int line, int want) {
        StringBuilder text = new StringBuilder();
        Due.law(x, text.append("read let if ").append(word).append("=").append(want).toString());
        due.is(word + " is " + want, x.may(reader, 0, line), 0);
    }

    private static void words() {
        FilesOpened x = house("");
        word(x, "self", 0, 0, 1);
        word(x, "self", 0, 1, 0);
        word(x, "self", 1, 0, 0);
        word(x, "third", 0, 0, 1);
        word(x, "third", 0, 1, 2);
        word(x, "third", 1, 0, 2);
        word(x, "lines", 0, 0, 2);
        word(x, "press", 0, 0, 0);
        word(x, "press", 1, 0, 1);
        x.clock(4);
        x.ask(0, 0);
        x.clock(7);
        word(x, "age", 0, 0, 7);
        word(x, "waits", 0, 0, 3);
        word(x, "waits", 1, 0, 0);
        word(x, "asked", 0, 0, 0);
        word(x, "day", 0, 0, 7);
        x.open(0);
        x.call();
        word(x, "asked", 0, 0, 1);
        word(x, "waits", 0, 0, 0);
        x.ask(0, 0);
        word(x, "asked", 0, 0, 1);
        word(x, "reports+bills", 0, 0, 0);
        int later = x.sheet();
        x.line(later, 1, 1, 1);
        x.clock(9);
        Due.law(x, "read let if age=2; turn self+third+source+reports+bills; need 1 if age+lines+press+waits+asked=0");
        due.is("age of a sheet that came later", x.may(0, later, 0), 0);
        x.cover(0);
        due.is("no words of the reader in need", x.need(0, 9), 1);
        x.may(0, 0, 0);
        due.is("no words of the line in turn", x.turn(0), 0);
        FilesOpened y = house("");
        y.ask(0, 0);
        due.is("turn without a law", y.turn(0), 0);
    }

    private static void sources() {
        FilesOpened x = house("read let if source=1; read black if source=2");
        x.cover(0);
        x.cover(0);
        x.sheet();
        x.open(1);
        due.is("nobody is sure", x.may(0, 0, 1), 2);
        for (int person = 0; person < 4; person++) {
            if (person != 1) {
                x.report(1, 0, person, 0, 0, 0, 0);
            }
            if (person != 2) {
                x.report(1, 1, person, 0, 0, 0, 0);
            }
        }
        due.is("both are sure", x.may(0, 0, 1), 1);
        due.is("one of line 0", x.may(0, 0, 0), 0);
        due.is("not the reader himself", x.may(x.reader(1, false), 0, 1), 0);
        x.fall(0);
        due.is("one is no more sure", x.may(0, 0, 1), 0);
        x.ask(1, 0);
        x.open(0);
        x.call();
        due.is("a telling knows it, too", x.told(1, 0, 1), 200);
        due.is("and who is not", x.told(1, 0, 0), -1);
    }

    private static void asking() {
        FilesOpened x = house("turn waits*10+asked");
        due.is("nobody waits", x.turn(0), Long.MIN_VALUE);
        due.no("no reader", x.ask(2, 0));
        due.no("reader -1", x.ask(-1, 0));
        due.no("no sheet", x.ask(0, 1));
        due.yes("ask(0, 0)", x.ask(0, 0));
        due.no("waits already", x.ask(0, 0));
        x.sheet();
        due.no("waits for another", x.ask(0, 1));
        due.is("those who wait", x.count(12), 1);
        x.clock(2);
        due.is("turn", x.turn(0), 20);
        due.is("no reader's turn", x.turn(2), Long.MIN_VALUE);
        due.is("turn of reader -1", x.turn(-1), Long.MIN_VALUE);
        x.tear(1);
        due.no("torn", x.ask(1, 1));
        x.tear(0);
        due.is("he still waits", x.count(12), 1);
        due.is("but is not called", x.call(), -1);
    }

    private static void calling() {
        FilesOpened x = house("turn press*5+lines*0");
        x.reader(1, false);
        x.reader(2, false);
        due.is("nobody", x.call(), -1);
        x.sheet();
        x.ask(3, 0);
        due.is("closed", x.call(), -1);
        x.clock(1);
        x.ask(2, 0);
        x.ask(0, 0);
        x.ask(1, 1);
        x.open(0);
        due.is("who asked first", x.call(), 3);
        x.open(1);
        due.is("the greatest turn", x.call(), 1);
        due.is("of one day the least", x.call(), 0);
        due.is("the last", x.call(), 2);
        due.is("nobody any more", x.call(), -1);
        due.is("waiting", x.count(12), 0);
        due.yes("he may ask again", x.ask(3, 0));
        FilesOpened y = house("turn 0-lines");
        y.sheet();
        y.open(0);
        y.open(1);
        y.ask(0, 0);
        y.ask(1, 1);
        due.is("turns below 0, by their sheets", y.call(), 1);
    }

    private static void telling() {
        FilesOpened x = house("read let if self=1 and waits>=0 and day>0; read black if third=2");
        x.open(0);
        due.is("not told", x.told(0, 0, 0), -1);
        x.ask(1, 0);
        x.ask(0, 0);
        x.call();
        due.is("barred", x.told(0, 0, 0), -1);
        due.is("black", x.told(0, 0, 1), -22);
        x.clock(1);
        x.ask(0, 0);
        x.call();
        due.is("called in turn", x.told(1, 0, 0), -12);
        x.call();
        due.is("a word now", x.told(0, 0, 0), 100);
        Due.law(x, "read black if waits=0 and asked=2");
        x.ask(0, 0);
        x.call();
        due.is("the telling that told most", x.told(0, 0, 0), 100);
        due.is("told the length again", x.told(0, 0, 1), -22);
        x.line(0, 1, 7, 7);
        due.is("a line that came later", x.told(0, 0, 2), -1);
        x.tear(0);
        due.is("it stays told", x.told(0, 0, 0), 100);
        due.is("no reader", x.told(2, 0, 0), -1);
        due.is("no sheet", x.told(0, 1, 0), -1);
        due.is("no line", x.told(0, 0, 3), -1);
        FilesOpened y = house("read let if waits=2 and asked=0");
        y.open(0);
        y.ask(0, 0);
        y.clock(2);
        y.call();
        due.is("as he may while he waits", y.told(0, 0, 0), 100);
        due.is("not any more", y.may(0, 0, 0), 2);
    }

    private static void together() {
        FilesOpened x = house("read let if third<2");
        x.cover(0);
        x.cover(0);
        x.sheet();
        x.sheet();
        x.line(1, 0, 1, 1);
        for (int sheet = 0; sheet < 3; sheet++) {
            x.report(sheet, 0, sheet, 0, 5, 10, 10);
        }
        due.is("nothing told", x.together(0, 0, -1), 4);
        due.is("with sheet 2, closed", x.together(0, 0, 2), 3);
        x.open(0);
        x.open(1);
        x.open(2);
        x.ask(0, 0);
        x.call();
        due.is("one line of sheet 0 was barred", x.together(0, 0, -1), 4);
        x.ask(0, 2);
        x.call();
        due.is("sheet 2 has no lines", x.together(0, 0, -1), 4);
        x.ask(0, 1);
        x.call();
        due.is("all of sheet 1", x.together(0, 0, -1), 3);
        due.is("sheet 1 again", x.together(0, 0, 1), 3);
        due.is("and of sheet 2", x.together(0, 0, 2), 2);
        due.is("of another cover", x.together(0, 1, 2), 4);
        due.is("another reader", x.together(1, 0, -1), 4);
        x.seen(3, 6, 10, 10);
        due.is("by what is seen", x.together(0, 0, -1), 2);
        x.line(1, 0, 1, 1);
        due.is("a further line", x.together(0, 0, -1), 4);
        x.fall(2);
        due.is("a report that fell", x.together(0, 0, 2), 4);
        x.tear(0);
        due.is("a sheet that is torn", x.together(0, 0, 0), 4);
        due.is("no reader", x.together(2, 0, -1), -1);
        due.is("no cover", x.together(0, 2, -1), -1);
        due.is("no sheet", x.together(0, 0, 3), -1);
        due.is("sheet -2", x.together(0, 0, -2), -1);
    }
}
