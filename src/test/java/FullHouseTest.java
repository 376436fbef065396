/** The most of everything: the last one comes and is as good as the others, a further one does not come. */
public final class FullHouseTest {
    private static final int NONE = FilesOpened.NONE;
    private static final Due due = new Due();

    private FullHouseTest() {
    }

    public static void main(String[] args) {
        sacks();
        scraps();
        sheetsToldWhole();
        sheetsTaken();
        persons();
        seen();
        covers();
        reports();
        bills();
        laws();
        lines();
        readers();
        findings();
        askers();
        tape();
        due.end();
    }

    private static FilesOpened house(int persons, int covers, int sheets) {
        FilesOpened x = new FilesOpened();
        for (int i = 0; i < persons; i++) {
            due.is("person " + i, x.person(i), i);
        }
        for (int i = 0; i < covers; i++) {
            due.is("cover " + i, x.cover(i % 10), i);
        }
        for (int i = 0; i < sheets; i++) {
            due.is("sheet " + i, x.sheet(), i);
        }
        return x;
    }

    private static void sacks() {
        FilesOpened x = new FilesOpened();
        for (int i = 0; i < 20; i++) {
            due.is("sack " + i, x.sack(i + 1), i);
        }
        due.is("sack 20", x.sack(1), NONE);
        due.is("sacks", x.count(1), 20);
        due.is("scrap of sack 19", x.scrap(19, 0, 0), 0);
        due.is("scrap of sack 20", x.scrap(20, 0, 0), NONE);
        due.is("its sack", x.scraps(0, 0), 19);
        due.is("lay sack 19", x.lay(19, 1, 1), 0);
        x.asker(2, 1);
        due.is("order of sacks 18 and 19", x.order(2, Due.packed(5, 18, 19)), 20);
        due.is("order of sack 20", x.order(1, 20), NONE);
    }

    /** Scrap numbers go beyond 127, so the eight bits of judged() are no signed byte. */
    private static void scraps() {
        FilesOpened x = new FilesOpened();
        x.sack(1);
        x.sack(1);
        for (int i = 0; i < 200; i++) {
            due.is("scrap " + i, x.scrap(i < 192 ? 0 : 1, 3, Due.edges(0, i == 198 ? 5 : 0, 0, i == 199 ? -5 : 0)), i);
        }
        due.is("scrap 200", x.scrap(0, 3, 0), NONE);
        due.is("scraps", x.count(2), 200);
        due.is("loose ones", x.count(3), 200);
        due.is("left edge of scrap 199", x.scraps(199, 5), -5);
        due.is("of scrap 200", x.scraps(200, 5), -40000);
        due.is("fits(198, 199)", x.fits(198, 199, 0), 1);
        due.is("fits(199, 200)", x.fits(199, 200, 0), NONE);
        due.is("judged(198, 199)", x.judged(2, 1, Due.packed(8, 198, 199)), 1);
        due.is("judged(128, 127)", x.judged(2, 1, Due.packed(8, 128, 127)), 0);
        due.is("judged(199, 200)", x.judged(2, 1, Due.packed(8, 199, 200)), NONE);
        due.is("judged(255)", x.judged(1, 1, 255), NONE);
        due.is("192 in a sack", x.lay(0, 8, 1), NONE);
        due.is("the last eight", x.lay(1, 8, 1), 1);
        due.is("take", x.take(0), 0);
        due.is("loose ones left", x.count(3), 192);
        due.is("scrap 199 is of the sheet", x.scraps(199, 6), 0);
        due.is("tear", x.tear(0), 8);
        due.is("all loose", x.count(3), 200);
    }

    private static void sheetsToldWhole() {
        FilesOpened x = house(1, 1, 200);
        due.is("sheet 200", x.sheet(), NONE);
        due.is("sheets", x.count(4), 200);
        due.is("of sheet 200", x.sheets(200, 0), NONE);
        due.is("a report of the last", x.report(199, 0, 0, 0, 0, 0, 0), 0);
        due.is("the next paper", x.next(0), 199);
        due.yes("open the last", x.open(199));
        due.is("known", x.known(0, 0), 1);
        due.is("tear the last", x.tear(199), 0);
        due.is("fallen with it", x.known(0, 0), 0);
        due.is("a torn one leaves no room", x.sheet(), NONE);
    }

    private static void sheetsTaken() {
        FilesOpened x = house(0, 0, 199);
        x.sack(1);
        x.scrap(0, 0, 0);
        x.lay(0, 1, 1);
        due.is("the last is taken", x.take(0), 199);
        due.is("of it", x.scraps(0, 6), 199);
        x.tear(199);
        due.is("no room", x.take(0), NONE);
        due.is("still loose", x.scraps(0, 6), NONE);
        due.is("sheets", x.count(4), 200);
        due.is("the laying stays", x.laid(0, 0), 0);
    }

    private static void persons() {
        FilesOpened x = house(60, 1, 1);
        due.is("person 60", x.person(NONE), NONE);
        due.is("persons", x.count(5), 60);
        due.is("candidates", x.candidate(0, 0, NONE), 60);
        due.is("the last candidate", x.candidate(0, 0, 59), 59);
        due.is("behind the last", x.candidate(0, 0, 60), NONE);
        x.open(0);
        x.report(0, 0, 0, 0, 1, 10, 10);
        for (int i = 1; i < 59; i++) {
            x.seen(i, 2, 10, 10);
        }
        due.is("person 59 is sure", x.sure(0, 0), 59);
        due.is("and could have heard it", x.made(0, 0, 0), 0);
        x.seen(59, 2, 10, 10);
        due.is("person 59 is out", x.out(0, 59, 0), 0);
        due.is("nobody could", x.made(0, 0, 0), 1);
        due.is("a line that names him", x.line(0, 1L << 59, 1, 1), 0);
        due.is("a line that names all", x.line(0, (1L << 60) - 1, 1, 1), 1);
        due.is("a line that names person 60", x.line(0, 1L << 60, 1, 1), NONE);
        due.is("a line that names person 63", x.line(0, 1L << 63, 1, 1), NONE);
        due.is("reader 59", x.reader(59, false), 0);
        due.is("law", Due.law(x, "read let if self=1 and third=59; read black if self=1 and third=0"), 0);
        due.is("he alone", x.may(0, 0, 0), 1);
        due.is("with all others", x.may(0, 0, 1), 0);
        due.is("his office", x.persons(59, 0), 59);
        due.is("office of 60", x.persons(60, 0), -2);
    }

    private static void seen() {
        FilesOpened x = house(2, 1, 1);
        x.open(0);
        x.report(0, 0, 0, 0, 1, 10, 10);
        for (int i = 0; i < 399; i++) {
            due.is("seen " + i, x.seen(0, 0, 0, 0), i);
        }
        due.is("not yet out", x.out(0, 1, 0), NONE);
        due.is("seen 399", x.seen(1, 2, 10, 10), 399);
        due.is("out by the last", x.out(0, 1, 0), 0);
        due.is("seen 400", x.seen(1, 1, 10, 10), NONE);
        due.is("out still", x.out(0, 1, 0), 0);
        due.yes("the last falls", x.unsee(399));
        due.is("not out", x.out(0, 1, 0), NONE);
        due.is("a fallen one leaves no room", x.seen(1, 2, 10, 10), NONE);
        due.is("all that came", x.count(6), 400);
    }

    private static void covers() {
        FilesOpened x = house(2, 40, 1);
        due.is("cover 40", x.cover(0), NONE);
        due.is("covers", x.count(7), 40);
        x.open(0);
        due.is("report by the last", x.report(0, 39, 0, 0, 0, 0, 0), 0);
        due.is("report by cover 40", x.report(0, 40, 0, 0, 0, 0, 0), NONE);
        due.is("sure of the last", x.sure(39, 0), 1);
        due.is("bill to the last", x.bill(0, 39, 7, 0), 0);
        due.is("bill to cover 40", x.bill(0, 40, 7, 0), NONE);
        due.is("account of its officer", x.account(9, 0), 7);
        due.is("finding of the last", x.finding(1, 39), 0);
        due.is("finding of cover 40", x.finding(1, 40), NONE);
        x.reader(NONE, false);
        x.line(0, 2, 1, 1);
        due.is("law", Due.law(x, "read let if source=1"), 0);
        due.is("he is a source", x.may(0, 0, 0), 0);
    }

    private static void reports() {
        FilesOpened x = house(3, 2, 2);
        x.open(0);
        for (int i = 0; i < 198; i++) {
            due.is("report " + i, x.report(0, 0, 0, 0, 0, 0, 0), i);
        }
        due.is("report 198", x.report(0, 0, 1, 0, 1, 5, 6), 198);
        due.is("report 199", x.report(0, 1, 1, 0, 1, 5, 6), 199);
        due.is("report 200", x.report(0, 1, 2, 0, 0, 0, 0), NONE);
        due.is("reports", x.count(8), 200);
        due.is("of the sheet", x.sheets(0, 5), 200);
        due.is("out by 198", x.out(0, 1, 0), 198);
        due.is("out by 199", x.out(1, 1, 0), 199);
        due.is("199 is copied", x.made(199, 0, 1), 198);
        due.is("known", x.known(199, 0), 1);
        due.is("of report 200", x.known(200, 0), NONE);
        x.premium(0, 999);
        due.is("199 premiums", x.account(0, 0), -199 * 999);
        due.is("the last is copied", x.account(1, 0), 0);
        due.is("law", Due.law(x, "need 1 if reports=199; need 2 if reports=1"), 0);
        due.is("199 by cover 0", x.need(0, 0), 1);
        due.yes("the last falls", x.fall(199));
        due.is("a fallen one leaves no room", x.report(1, 1, 2, 0, 0, 0, 0), NONE);
        due.is("all fall with their sheet", x.tear(0), 0);
        due.is("none is known", x.account(0, 0), 0);
    }

    private static void bills() {
        FilesOpened x = house(1, 1, 2);
        x.open(0);
        for (int i = 0; i < 200; i++) {
            due.is("bill " + i, x.bill(0, 0, 9999, 9999), i);
        }
        due.is("bill 200", x.bill(0, 0, 1, 0), NONE);
        due.is("bills", x.count(9), 200);
        due.is("of the sheet", x.sheets(0, 6), 200);
        due.is("all of them", x.account(0, 0), 200 * 9999);
        due.is("law", Due.law(x, "need 1 if bills=200"), 0);
        due.is("200 to cover 0", x.need(0, 0), 1);
        x.tear(0);
        due.is("all fall with their sheet", x.account(0, 0), 0);
        due.is("fallen ones leave no room", x.bill(1, 0, 1, 0), NONE);
    }

    private static void laws() {
        FilesOpened x = house(0, 1, 0);
        for (int i = 0; i < 20; i++) {
            Due.write(x, "need " + i + " if 1=1");
            due.is("law " + i, x.law(i), i);
        }
        Due.write(x, "need 50 if 1=1");
        due.is("law 20", x.law(19), NONE);
        due.is("the tape stays", x.count(14), 14);
        due.is("laws", x.count(10), 20);
        due.is("in force", x.force(3999), 19);
        due.is("need by the last", x.need(0, 19), 19);
        due.is("need by the one ahead of it", x.need(0, 18), 18);
        Due.write(x, "?");
        due.is("law 20 of a text with a fault", x.law(19), NONE);
        due.is("the tape stays then, too", x.count(14), 15);
    }

    private static void lines() {
        FilesOpened x = house(1, 1, 2);
        for (int i = 0; i < 20; i++) {
            due.is("line " + i, x.line(0, i % 2, 1 + i, 1000 + i), i);
        }
        due.is("line 20", x.line(0, 0, 1, 0), NONE);
        due.is("lines", x.sheets(0, 4), 20);
        due.is("of another sheet", x.line(1, 0, 1, 0), 0);
        due.is("law", Due.law(x, "read let if lines=20 and third=0; read black if lines=20"), 0);
        x.reader(NONE, false);
        due.is("may read the last", x.may(0, 0, 19), 1);
        due.is("may read line 20", x.may(0, 0, 20), NONE);
        x.open(0);
        x.ask(0, 0);
        due.is("called", x.call(), 0);
        due.is("told the last but one", x.told(0, 0, 18), 1018);
        due.is("told the last", x.told(0, 0, 19), -22);
        due.is("told line 20", x.told(0, 0, 20), NONE);
    }

    private static void readers() {
        FilesOpened x = house(2, 1, 1);
        for (int i = 0; i < 30; i++) {
            due.is("reader " + i, x.reader(i == 29 ? 0 : NONE, i == 28), i);
        }
        due.is("reader 30", x.reader(0, true), NONE);
        due.is("readers", x.count(11), 30);
        x.line(0, 1, 1, 77);
        x.report(0, 0, 1, 0, 0, 0, 0);
        x.open(0);
        due.is("law", Due.law(x, "read let if self=1; turn press"), 0);
        for (int i = 0; i < 30; i++) {
            due.yes("ask " + i, x.ask(i, 0));
        }
        due.no("ask 30", x.ask(30, 0));
        due.is("those who wait", x.count(12), 30);
        due.is("turn of reader 28", x.turn(28), 1);
        due.is("turn of reader 29", x.turn(29), 0);
        due.is("turn of reader 30", x.turn(30), Long.MIN_VALUE);
        due.is("the press first", x.call(), 28);
        for (int i = 0; i < 28; i++) {
            due.is("call " + i, x.call(), i);
        }
        due.is("the last", x.call(), 29);
        due.is("nobody", x.call(), NONE);
        due.is("told reader 29", x.told(29, 0, 0), 77);
        due.is("told reader 28", x.told(28, 0, 0), NONE);
        due.is("told reader 30", x.told(30, 0, 0), NONE);
        due.is("put together by reader 29", x.together(29, 0, NONE), 1);
        due.is("put together by reader 28", x.together(28, 0, NONE), 2);
        due.is("put together by reader 30", x.together(30, 0, NONE), NONE);
    }

    private static void findings() {
        FilesOpened x = house(60, 1, 0);
        for (int i = 0; i < 60; i++) {
            due.is("finding " + i, x.finding(i, 0), i);
        }
        due.is("finding 60", x.finding(0, 0), NONE);
        due.is("findings", x.count(13), 60);
        due.is("law", Due.law(x, "need 0 if 1=1"), 0);
        due.is("the last stands", x.stands(59, 0), 1);
        due.is("of finding 60", x.stands(60, 0), NONE);
        for (int i = 0; i < 60; i++) {
            due.yes("lose " + i, x.lose(i));
        }
        due.no("lose 60", x.lose(60));
        due.is("by the last", x.persons(59, 1), 59);
        due.no("appeal against finding 60", x.appeal(60, true));
        due.yes("appeal against the last", x.appeal(59, true));
        due.is("one is given back", x.back(), 1);
        due.is("his office", x.persons(59, 0), 59);
        due.is("law of another need", Due.law(x, "need 1 if 1=1"), 1);
        due.is("all others are given back", x.back(), 59);
    }

    private static void askers() {
        FilesOpened x = new FilesOpened();
        for (int i = 0; i < 9; i++) {
            x.sack(999);
        }
        for (int i = 1; i <= 12; i++) {
            due.is("asker " + i, x.asker(i == 12 ? 256 : 511, 99), i);
        }
        due.is("asker 13", x.asker(1, 1), NONE);
        due.is("askers", x.count(15), 12);
        due.is("order", x.order(9, Due.packed(5, 0, 1, 2, 3, 4, 5, 6, 7, 8)), 11L * 99 * 9 * 999 + 99 * 999);
        due.is("the last asker's sack first", x.ordered(0), 8);
        for (int k = 1; k < 9; k++) {
            due.is("the others by numbers, " + k, x.ordered(k), k - 1);
        }
        due.is("they are gone", x.count(15), 0);
        due.is("a new asker", x.asker(1, 1), 1);
    }

    private static void tape() {
        FilesOpened x = new FilesOpened();
        for (int i = 1; i <= 20; i++) {
            due.is("feed " + i, x.feed(0x20202020, 0x20202020, 0x20202020, 0x20202020, 0x20202020), 20 * i);
        }
        due.is("feed 21", x.feed(0, 0, 0, 0, 0), NONE);
        due.is("bytes", x.count(14), 400);
        due.is("end(400)", x.end(400), 400);
        due.is("end(401)", x.end(401), NONE);
        due.is("the end is behind the last byte", x.law(0), Due.fault(400, 0));
        due.is("empty", x.count(14), 0);
        String law = "turn 3+" + " ".repeat(392) + "4";
        Due.write(x, law);
        due.is("bytes of a law", x.count(14), 400);
        due.is("a law of 400 bytes", x.law(0), 0);
    }
}
