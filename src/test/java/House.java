/** A house with some of everything, and how it looks at the end of day 10: what the ranges are tried on. */
final class House {
    static final int NOW = 10;

    private House() {
    }

    /** Some hundred calls, so that as many as four hundred are left to look at the house. */
    static void tell(FilesOpened x) {
        names(x);
        scraps(x);
        sheets(x);
        x.clock(2);
        papers(x);
        readers(x);
        x.clock(5);
        falls(x);
        findings(x);
        x.clock(8);
        Due.law(x, "read let if 1=1; need 2 if 1=1; turn press");
        Due.write(x, "need 0 if 1=1");
        x.law(20);
        x.ask(1, 2);
        x.ask(2, 1);
        orders(x);
        x.clock(NOW);
        Due.write(x, "turn 4*day; need 7 if 1=1");
        x.may(0, 0, 0);
    }

    /** Persons 0 to 3, of whom 2 has no office; covers 0 to 2. */
    private static void names(FilesOpened x) {
        x.person(0);
        x.person(99);
        x.person(-1);
        x.person(5);
        x.cover(0);
        x.cover(9);
        x.cover(0);
    }

    /** Scraps 0 and 1 are of sheet 0; the loose 2 to 4 of sack 0 are laid; 5 lies alone in sack 1; sack 2 is empty. */
    private static void scraps(FilesOpened x) {
        x.sack(3);
        x.sack(5);
        x.sack(7);
        x.scrap(0, 1, Due.edges(0, 7, 0, 0));
        x.scrap(0, 1, Due.edges(0, 0, 0, -7));
        x.lay(0, 2, 1);
        x.take(0);
        x.scrap(0, 15, Due.edges(0, 7, 0, 0));
        x.scrap(0, 15, Due.edges(0, 0, 8, -7));
        x.scrap(0, 15, Due.edges(-8, 0, 0, -7));
        x.scrap(1, 15, Due.edges(1, 2, 3, 4));
        x.lay(0, 3, 1);
    }

    /** Sheets 0 and 1 are opened, 2 and 4 stay closed, 3 will be torn. */
    private static void sheets(FilesOpened x) {
        for (int i = 1; i <= 4; i++) {
            x.sheet();
        }
        Due.law(x, "read let if self=1; read black if third=2; need 1 if day<12; turn 3+waits");
    }

    /** Reports 0 to 4, of which 1 is copied from 0; bills 0 to 2; sightings 0 to 2. */
    private static void papers(FilesOpened x) {
        x.open(0);
        x.open(1);
        x.seen(1, 5, 10, 20);
        x.seen(2, 6, 10, 10);
        x.seen(3, 7, 10, 12);
        x.report(0, 0, 0, 1, 5, 10, 12);
        x.report(1, 1, 0, 1, 5, 10, 13);
        x.report(2, 0, 3, 31, 8, 15, 15);
        x.report(3, 0, 1, 2, 5, 10, 10);
        x.report(1, 0, 2, 0, 5, 30, 30);
        x.bill(0, 0, 100, 0);
        x.bill(1, 1, 9999, 9999);
        x.bill(3, 0, 5, 1);
        x.premium(1, 30);
        x.premium(31, 999);
    }

    /** Readers 0 to 3; reader 0 is told sheet 0 on day 5. */
    private static void readers(FilesOpened x) {
        x.line(0, 1, 10, 111);
        x.line(0, 6, 20, 222);
        x.line(1, 2, 30, 333);
        x.line(4, 0, 40, 444);
        x.reader(0, false);
        x.reader(-1, true);
        x.reader(1, false);
        x.reader(2, false);
        x.ask(0, 0);
    }

    private static void falls(FilesOpened x) {
        x.call();
        x.tear(3);
        x.fall(4);
        x.unsee(2);
    }

    /** By finding 0 person 1 has lost his office; finding 1 stands, too; 2 does not; 1 has its appeal behind it. */
    private static void findings(FilesOpened x) {
        x.finding(1, 0);
        x.finding(3, 1);
        x.finding(2, 2);
        x.lose(0);
        x.appeal(1, false);
    }

    /** Sack 1 ahead of 0 was the latest order; two askers wait for a further one. */
    private static void orders(FilesOpened x) {
        x.asker(1, 2);
        x.asker(2, 1);
        x.order(2, Due.packed(5, 1, 0));
        x.asker(3, 4);
        x.asker(4, 1);
    }
}
