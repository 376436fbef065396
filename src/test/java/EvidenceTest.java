/** Promises 15 to 26: persons, sightings, covers, reports, who can stand behind a name. */
public final class EvidenceTest {
    private static final Due due = new Due();

    public static void main(String[] args) {
        persons();
        sightings();
        reports();
        knowing();
        ruledOut();
        candidates();
        nextPaper();
        nobodyCould();
        copied();
        due.end();
    }

    private static FilesOpened house(int persons, int covers, int sheets) {
        FilesOpened x = new FilesOpened();
        for (int i = 0; i < persons; i++) {
            x.person(-1);
        }
        for (int i = 0; i < covers; i++) {
            x.cover(i % 10);
        }
        for (int i = 0; i < sheets; i++) {
            x.sheet();
        }
        return x;
    }

    private static void persons() {
        FilesOpened x = new FilesOpened();
        due.is("rank 100", x.person(100), -1);
        due.is("rank -2", x.person(-2), -1);
        for (int i = 0; i < 60; i++) {
            due.is("person " + i, x.person(i == 0 ? -1 : i == 1 ? 99 : 0), i);
        }
        due.is("person 60", x.person(0), -1);
        due.is("officer -1", x.cover(-1), -1);
        due.is("officer 10", x.cover(10), -1);
        for (int i = 0; i < 40; i++) {
            due.is("cover " + i, x.cover(i % 10), i);
        }
        due.is("cover 40", x.cover(0), -1);
    }

    private static void sightings() {
        FilesOpened x = house(1, 1, 1);
        due.is("no person", x.seen(1, 0, 0, 0), -1);
        due.is("person -1", x.seen(-1, 0, 0, 0), -1);
        due.is("place 100", x.seen(0, 100, 0, 0), -1);
        due.is("place -1", x.seen(0, -1, 0, 0), -1);
        due.is("from -1", x.seen(0, 0, -1, 0), -1);
        due.is("to 10000", x.seen(0, 0, 0, 10000), -1);
        due.is("to ahead of from", x.seen(0, 0, 5, 4), -1);
        for (int i = 0; i < 400; i++) {
            due.is("seen " + i, x.seen(0, 99, 0, 9999), i);
        }
        due.is("seen 400", x.seen(0, 0, 0, 0), -1);
        due.yes("unsee(7)", x.unsee(7));
        due.no("unsee(7) again", x.unsee(7));
        due.no("unsee(400)", x.unsee(400));
        due.no("unsee(-1)", x.unsee(-1));
        due.is("count(6)", x.count(6), 400);
    }

    private static void reports() {
        FilesOpened x = house(1, 1, 2);
        x.tear(1);
        due.is("no sheet", x.report(2, 0, 0, 0, 0, 0, 0), -1);
        due.is("torn sheet", x.report(1, 0, 0, 0, 0, 0, 0), -1);
        due.is("no cover", x.report(0, 1, 0, 0, 0, 0, 0), -1);
        due.is("no person", x.report(0, 0, 1, 0, 0, 0, 0), -1);
        due.is("person NONE", x.report(0, 0, -1, 0, 0, 0, 0), -1);
        due.is("act 32", x.report(0, 0, 0, 32, 0, 0, 0), -1);
        due.is("act -1", x.report(0, 0, 0, -1, 0, 0, 0), -1);
        due.is("place 100", x.report(0, 0, 0, 0, 100, 0, 0), -1);
        due.is("place -1", x.report(0, 0, 0, 0, -1, 0, 0), -1);
        due.is("day -1", x.report(0, 0, 0, 0, 0, -1, 0), -1);
        due.is("written 10000", x.report(0, 0, 0, 0, 0, 0, 10000), -1);
        due.is("written ahead", x.report(0, 0, 0, 0, 0, 5, 4), -1);
        for (int i = 0; i < 200; i++) {
            due.is("report " + i, x.report(0, 0, 0, 31, 99, 9999, 9999), i);
        }
        due.is("report 200", x.report(0, 0, 0, 0, 0, 0, 0), -1);
        due.yes("fall(199)", x.fall(199));
        due.no("fall(199) again", x.fall(199));
        due.no("fall(200)", x.fall(200));
        due.no("fall(-1)", x.fall(-1));
    }

    private static void knowing() {
        FilesOpened x = house(1, 1, 2);
        x.clock(2);
        x.report(0, 0, 0, 0, 0, 0, 0);
        x.clock(4);
        x.open(0);
        x.clock(6);
        x.report(0, 0, 0, 0, 0, 0, 0);
        due.is("ahead of opening", x.known(0, 3), 0);
        due.is("on opening", x.known(0, 4), 1);
        due.is("on the last day", x.known(0, 3999), 1);
        due.is("ahead of coming", x.known(1, 5), 0);
        due.is("on coming", x.known(1, 6), 1);
        x.clock(8);
        x.fall(0);
        due.is("ahead of falling", x.known(0, 7), 1);
        due.is("on falling", x.known(0, 8), 0);
        due.is("no report", x.known(2, 0), -1);
        due.is("report -1", x.known(-1, 0), -1);
        due.is("no day", x.known(0, 4000), -1);
        due.is("day -1", x.known(0, -1), -1);
    }

    private static void ruledOut() {
        FilesOpened x = house(3, 2, 2);
        x.open(0);
        x.report(0, 0, 0, 0, 7, 10, 10);
        x.report(0, 0, 0, 0, 8, 20, 20);
        due.is("the one it tells of", x.out(0, 0, 0), 0);
        due.is("not seen", x.out(0, 1, 0), -1);
        x.seen(1, 8, 0, 9);
        x.seen(1, 8, 11, 19);
        due.is("seen on other days", x.out(0, 1, 0), -1);
        x.seen(1, 8, 10, 10);
        due.is("elsewhere", x.out(0, 1, 0), 0);
        x.seen(1, 7, 1, 99);
        due.is("at both, but elsewhere on the second day", x.out(0, 1, 0), 1);
        x.seen(1, 8, 20, 20);
        due.is("there as well", x.out(0, 1, 0), -1);
        due.is("another cover", x.out(1, 0, 0), -1);
        x.clock(5);
        x.unsee(4);
        due.is("the sighting fell", x.out(0, 1, 5), 1);
        due.is("known before", x.out(0, 1, 4), -1);
        x.fall(0);
        due.is("the first fell", x.out(0, 0, 5), 1);
        due.is("no cover", x.out(2, 0, 0), -2);
        due.is("no person", x.out(0, 3, 0), -2);
        due.is("no day", x.out(0, 0, 4000), -2);
        due.is("day -1", x.out(0, 0, -1), -2);
    }

    private static void candidates() {
        FilesOpened x = house(3, 2, 1);
        x.report(0, 0, 1, 0, 7, 10, 10);
        due.is("closed", x.candidate(0, 0, -1), 3);
        x.open(0);
        due.is("how many", x.candidate(0, 0, -1), 2);
        due.is("0th", x.candidate(0, 0, 0), 0);
        due.is("1st", x.candidate(0, 0, 1), 2);
        due.is("2nd", x.candidate(0, 0, 2), -1);
        due.is("k -2", x.candidate(0, 0, -2), -1);
        due.is("no cover", x.candidate(2, 0, -1), -1);
        due.is("no day", x.candidate(0, 4000, -1), -1);
        due.is("two left", x.sure(0, 0), -1);
        x.clock(1);
        x.seen(0, 3, 10, 10);
        due.is("sure", x.sure(0, 1), 2);
        due.is("not sure before", x.sure(0, 0), -1);
        due.is("no cover to be sure of", x.sure(2, 0), -1);
        due.is("no day to be sure on", x.sure(0, -1), -1);
        due.is("behind the last day", x.sure(0, 4000), -1);
        due.is("on the last day", x.sure(0, 3999), 2);
        x.person(-1);
        due.is("persons are as they are now", x.candidate(0, 0, -1), 3);
        due.is("not sure any more", x.sure(0, 1), -1);
        FilesOpened y = house(1, 1, 1);
        due.is("only one, but no report", y.sure(0, 0), -1);
        FilesOpened z = house(60, 1, 0);
        due.is("sixty", z.candidate(0, 0, -1), 60);
        due.is("the last", z.candidate(0, 0, 59), 59);
    }

    private static void nextPaper() {
        FilesOpened x = house(6, 2, 5);
        due.is("no cover", x.next(2), -1);
        due.is("cover -1", x.next(-1), -1);
        due.is("no reports", x.next(0), -1);
        x.report(4, 0, 0, 0, 7, 10, 10);
        due.is("one left out by sheet 4", x.next(0), 4);
        x.report(3, 0, 5, 0, 7, 10, 10);
        due.is("of several the least", x.next(0), 3);
        for (int person = 1; person <= 2; person++) {
            x.seen(person, 1, 20, 20);
        }
        x.report(2, 0, 0, 0, 7, 20, 20);
        due.is("just the half", x.next(0), 2);
        for (int person = 1; person <= 5; person++) {
            x.seen(person, 1, 30, 30);
        }
        x.report(1, 0, 0, 0, 7, 30, 30);
        due.is("none left is further off", x.next(0), 2);
        due.is("another cover's papers", x.next(1), -1);
        x.fall(2);
        due.is("its report fell", x.next(0), 3);
        x.tear(3);
        due.is("torn", x.next(0), 4);
        x.open(4);
        due.is("the last closed one", x.next(0), 1);
        x.open(1);
        due.is("nothing closed leaves fewer", x.next(0), -1);
    }

    private static void nobodyCould() {
        FilesOpened x = house(3, 1, 1);
        x.report(0, 0, 0, 0, 7, 10, 10);
        due.is("somebody", x.made(0, 0, 0), 0);
        x.seen(1, 3, 10, 10);
        due.is("somebody still", x.made(0, 0, 0), 0);
        x.clock(1);
        x.seen(2, 3, 9, 11);
        due.is("nobody, though not known", x.made(0, 1, 0), 1);
        due.is("the day before", x.made(0, 0, 0), 0);
        x.person(-1);
        due.is("a further person", x.made(0, 1, 0), 0);
        due.is("no report", x.made(1, 0, 0), -2);
        due.is("no day", x.made(0, 4000, 0), -2);
        due.is("what 2", x.made(0, 0, 2), -2);
        due.is("what -1", x.made(0, 0, -1), -2);
        FilesOpened y = house(1, 1, 1);
        y.report(0, 0, 0, 0, 7, 10, 10);
        due.is("there is nobody else", y.made(0, 0, 0), 1);
    }

    private static void copied() {
        FilesOpened x = house(2, 4, 3);
        x.open(0);
        x.report(0, 0, 0, 5, 7, 10, 14);
        x.report(0, 1, 0, 5, 7, 10, 13);
        x.report(0, 2, 0, 5, 7, 10, 13);
        x.report(0, 2, 0, 5, 7, 10, 20);
        x.report(1, 3, 0, 5, 7, 10, 11);
        due.is("earliest written, least number", x.made(0, 0, 1), 1);
        due.is("the first is no copy", x.made(1, 0, 1), -1);
        due.is("on one day the greater number", x.made(2, 0, 1), 1);
        due.is("not from its own cover", x.made(3, 0, 1), 1);
        due.is("not known itself", x.made(4, 0, 1), -1);
        x.clock(2);
        x.open(1);
        due.is("an earlier one comes", x.made(1, 2, 1), 4);
        due.is("all copied from it", x.made(0, 2, 1), 4);
        due.is("as known before", x.made(0, 1, 1), 1);
        x.clock(3);
        x.fall(4);
        due.is("and falls", x.made(0, 3, 1), 1);
        due.is("still known then", x.made(0, 2, 1), 4);
        FilesOpened y = house(2, 2, 1);
        y.open(0);
        y.report(0, 0, 0, 5, 7, 10, 10);
        y.report(0, 1, 1, 5, 7, 10, 11);
        y.report(0, 1, 0, 6, 7, 10, 11);
        y.report(0, 1, 0, 5, 8, 10, 11);
        y.report(0, 1, 0, 5, 7, 11, 11);
        for (int i = 1; i <= 4; i++) {
            due.is("unlike " + i, y.made(i, 0, 1), -1);
        }
    }
}
