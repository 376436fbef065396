/** Promises 43 to 49: findings, what they lean on, need, appeals, places lost and given back. */
public final class FindingsTest {
    private static final Due due = new Due();

    public static void main(String[] args) {
        findings();
        need();
        standing();
        places();
        persons();
        due.end();
    }

    private static void findings() {
        FilesOpened x = new FilesOpened();
        x.person(-1);
        x.cover(0);
        due.is("no person", x.finding(1, 0), -1);
        due.is("person -1", x.finding(-1, 0), -1);
        due.is("no cover", x.finding(0, 1), -1);
        for (int i = 0; i < 60; i++) {
            due.is("finding " + i, x.finding(0, 0), i);
        }
        due.is("finding 60", x.finding(0, 0), -1);
        due.no("no finding", x.appeal(60, true));
        due.no("finding -1", x.appeal(-1, true));
        due.yes("appeal", x.appeal(59, false));
        due.no("there was one", x.appeal(59, true));
    }

    private static void need() {
        FilesOpened x = new FilesOpened();
        due.is("no cover", x.need(0, 0), -1);
        x.person(-1);
        x.cover(0);
        x.cover(0);
        x.sheet();
        due.is("without a law", x.need(0, 0), 99);
        Due.law(x, "read let if 1=1; need 7 if reports=1 and bills=1; need 8 if bills=1; need 3 if day=6");
        due.is("no clause", x.need(0, 0), 99);
        x.clock(2);
        x.bill(0, 0, 1, 0);
        x.open(0);
        due.is("a bill", x.need(0, 2), 8);
        x.clock(3);
        x.report(0, 0, 0, 0, 0, 0, 0);
        x.report(0, 1, 0, 0, 0, 0, 0);
        due.is("and a report", x.need(0, 3), 7);
        due.is("the day before", x.need(0, 2), 8);
        due.is("another cover", x.need(1, 3), 99);
        due.is("the day that is looked at", x.need(1, 6), 3);
        due.is("no day", x.need(0, 4000), -1);
        due.is("day -1", x.need(0, -1), -1);
        Due.write(x, "need 1 if 1=1");
        x.law(5);
        due.is("the law of that day", x.need(0, 5), 1);
        due.is("the law before", x.need(0, 4), 7);
    }

    private static FilesOpened house() {
        FilesOpened x = new FilesOpened();
        x.person(40);
        x.person(-1);
        x.cover(0);
        x.cover(0);
        x.sheet();
        x.open(0);
        Due.law(x, "need 2 if day<100; need 0 if 1=1");
        return x;
    }

    private static void standing() {
        FilesOpened x = house();
        x.clock(1);
        x.finding(0, 0);
        due.is("too few papers", x.stands(0, 1), 0);
        x.report(0, 0, 1, 0, 7, 10, 10);
        due.is("one paper", x.stands(0, 1), 0);
        x.bill(0, 0, 1, 0);
        due.is("two papers", x.stands(0, 1), 1);
        due.is("ahead of its day", x.stands(0, 0), -1);
        due.is("no finding", x.stands(1, 1), -1);
        due.is("finding -1", x.stands(-1, 1), -1);
        due.is("no day", x.stands(0, 4000), -1);
        x.clock(4);
        x.seen(0, 8, 10, 10);
        due.is("no candidate", x.stands(0, 4), 0);
        due.is("as known before", x.stands(0, 3), 1);
        x.unsee(0);
        due.is("a candidate again", x.stands(0, 4), 1);
        x.clock(6);
        x.tear(0);
        due.is("papers fell", x.stands(0, 6), 0);
        due.is("not before", x.stands(0, 5), 1);
        due.is("need is less then", x.stands(0, 100), 1);
        x.clock(8);
        x.appeal(0, true);
        due.is("appeal granted", x.stands(0, 100), 0);
        due.is("ahead of the appeal", x.stands(0, 5), 1);
        x.finding(0, 1);
        x.appeal(1, false);
        due.is("appeal not granted", x.stands(1, 3999), 1);
        x.sheet();
        x.open(1);
        x.report(1, 1, 0, 0, 0, 0, 0);
        due.is("by its own cover's reports", x.stands(1, 100), 0);
    }

    private static void places() {
        FilesOpened x = house();
        x.finding(0, 0);
        x.finding(1, 0);
        due.no("no finding", x.lose(2));
        due.no("finding -1", x.lose(-1));
        due.no("does not stand", x.lose(0));
        due.is("still has it", x.persons(0, 0), 40);
        x.bill(0, 0, 1, 0);
        x.bill(0, 0, 1, 0);
        due.no("he has none", x.lose(1));
        due.yes("lost", x.lose(0));
        due.no("has none any more", x.lose(0));
        due.is("rank", x.persons(0, 0), -1);
        due.is("by finding 0", x.persons(0, 1), 0);
        due.is("it stands", x.back(), 0);
        x.clock(3);
        x.appeal(0, true);
        due.is("given back", x.back(), 1);
        due.is("rank again", x.persons(0, 0), 40);
        due.is("by none", x.persons(0, 1), -1);
        due.is("how often", x.persons(0, 2), 1);
        due.is("only once", x.back(), 0);
        x.finding(0, 0);
        due.yes("lost again", x.lose(2));
        due.is("by finding 2", x.persons(0, 1), 2);
        x.person(0);
        x.finding(2, 0);
        x.lose(3);
        x.tear(0);
        due.is("two at once", x.back(), 2);
        due.is("twice", x.persons(0, 2), 2);
    }

    private static void persons() {
        FilesOpened x = house();
        due.is("no office", x.persons(1, 0), -1);
        due.is("no finding", x.persons(1, 1), -1);
        due.is("never", x.persons(1, 2), 0);
        due.is("what 3", x.persons(0, 3), -2);
        due.is("what -1", x.persons(0, -1), -2);
        due.is("no person", x.persons(2, 0), -2);
        due.is("person -1", x.persons(-1, 0), -2);
    }
}
