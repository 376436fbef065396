/** Promises 43 to 49, a sentence of the document at a time: its edges, and what falls or is torn. */
public final class EdgesFindingsTest {
    private static final int NONE = FilesOpened.NONE;
    private static final Due due = new Due();

    private EdgesFindingsTest() {
    }

    public static void main(String[] args) {
        findingsOfWhat();
        candidateThen();
        needOrMore();
        lawOfThatDay();
        appealGrantedByThen();
        oneAppeal();
        aheadOfItsDay();
        ranks();
        losesOnce();
        doesNotStand();
        givenBackToAll();
        lostAgain();
        due.end();
    }

    private static void law(FilesOpened x, String text) {
        int number = x.count(10);
        due.is(text, Due.law(x, text), number);
    }

    /** Persons 0 and 1 with offices, 2 without; covers 0 and 1; open sheets 0 and 1; need is 0. */
    private static FilesOpened house() {
        FilesOpened x = new FilesOpened();
        x.person(0);
        x.person(99);
        x.person(NONE);
        x.cover(0);
        x.cover(9);
        x.sheet();
        x.sheet();
        x.open(0);
        x.open(1);
        law(x, "need 0 if 1=1");
        return x;
    }

    /** 43: a PERSON, a COVER; alike ones may come again. */
    private static void findingsOfWhat() {
        FilesOpened x = new FilesOpened();
        due.is("no person, no cover", x.finding(0, 0), NONE);
        x.person(NONE);
        due.is("no cover", x.finding(0, 0), NONE);
        x.cover(0);
        due.is("finding", x.finding(0, 0), 0);
        due.is("the same again", x.finding(0, 0), 1);
        due.is("person NONE", x.finding(NONE, 0), NONE);
        due.is("cover NONE", x.finding(0, NONE), NONE);
        due.is("findings", x.count(13), 2);
        FilesOpened y = new FilesOpened();
        y.cover(0);
        due.is("no person", y.finding(0, 0), NONE);
    }

    /** 44: if he is a CANDIDATE then. */
    private static void candidateThen() {
        FilesOpened x = house();
        x.finding(0, 0);
        x.finding(1, 0);
        x.finding(0, 1);
        due.is("no report, need 0", x.stands(0, 0), 1);
        x.clock(2);
        x.report(0, 0, 0, 0, 1, 10, 10);
        due.is("told of", x.stands(0, 2), 0);
        due.is("the day ahead", x.stands(0, 1), 1);
        due.is("another person", x.stands(1, 2), 1);
        due.is("another cover", x.stands(2, 2), 1);
        x.clock(3);
        x.seen(1, 2, 10, 10);
        due.is("elsewhere", x.stands(1, 3), 0);
        due.is("elsewhere, the day ahead", x.stands(1, 2), 1);
        x.clock(4);
        x.unsee(0);
        x.fall(0);
        due.is("the report fell", x.stands(0, 4), 1);
        due.is("the sighting fell", x.stands(1, 4), 1);
        due.is("not the day ahead", x.stands(0, 3), 0);
        due.is("nor for the other", x.stands(1, 3), 0);
        due.is("on the last day", x.stands(1, 3999), 1);
    }

    /** REPORTS and BILLS by and to it KNOWN then are together NEED of it or more. */
    private static void needOrMore() {
        FilesOpened x = house();
        law(x, "need 2 if 1=1");
        x.finding(2, 0);
        due.is("none", x.stands(0, 0), 0);
        x.bill(0, 0, 1, 0);
        due.is("a bill", x.stands(0, 0), 0);
        x.bill(0, 1, 1, 0);
        x.report(0, 1, 0, 0, 1, 10, 10);
        due.is("those of another cover", x.stands(0, 0), 0);
        x.report(1, 0, 0, 0, 1, 10, 10);
        due.is("just as many", x.stands(0, 0), 1);
        x.report(1, 0, 0, 0, 1, 10, 10);
        due.is("more", x.stands(0, 0), 1);
        x.clock(1);
        x.tear(1);
        due.is("one is left", x.stands(0, 1), 0);
        due.is("the day ahead of the tear", x.stands(0, 0), 1);
        x.bill(0, 0, 1, 0);
        due.is("two bills", x.stands(0, 1), 1);
        law(x, "need 3 if 1=1");
        due.is("one too few", x.stands(0, 1), 0);
        x.sheet();
        x.bill(2, 0, 1, 0);
        due.is("of a closed sheet", x.stands(0, 1), 0);
        x.open(2);
        due.is("opened", x.stands(0, 1), 1);
        FilesOpened y = house();
        law(y, "turn 1");
        y.finding(2, 0);
        for (int i = 0; i < 98; i++) {
            y.bill(0, 0, 1, 0);
        }
        due.is("98 of 99, without a clause", y.stands(0, 0), 0);
        y.bill(0, 0, 1, 0);
        due.is("99 of 99", y.stands(0, 0), 1);
    }

    /** By the LAW in force that DAY. */
    private static void lawOfThatDay() {
        FilesOpened x = house();
        x.clock(2);
        x.finding(0, 0);
        Due.write(x, "need 1 if 1=1");
        x.law(5);
        Due.write(x, "need 1 if day<3999");
        x.law(9);
        due.is("ahead of it", x.stands(0, 4), 1);
        due.is("from it on", x.stands(0, 5), 0);
        x.bill(0, 0, 1, 0);
        due.is("a bill", x.stands(0, 5), 1);
        due.is("under the later law", x.stands(0, 3998), 1);
        due.is("no clause on the last day", x.stands(0, 3999), 0);
    }

    /** No APPEAL against it was granted by then. */
    private static void appealGrantedByThen() {
        FilesOpened x = house();
        x.finding(0, 0);
        x.finding(0, 0);
        x.finding(0, 0);
        x.clock(4);
        due.yes("granted", x.appeal(0, true));
        due.yes("not granted", x.appeal(1, false));
        due.is("the day ahead", x.stands(0, 3), 1);
        due.is("on the day", x.stands(0, 4), 0);
        due.is("on the last day", x.stands(0, 3999), 0);
        due.is("not granted, it stands", x.stands(1, 4), 1);
        due.is("another finding stands", x.stands(2, 4), 1);
        x.clock(3999);
        due.yes("on the last day", x.appeal(2, true));
        due.is("the day ahead of it", x.stands(2, 3998), 1);
        due.is("on it", x.stands(2, 3999), 0);
    }

    /** 46: APPEALS: against a FINDING, once; granted or not. */
    private static void oneAppeal() {
        for (int first = 0; first < 2; first++) {
            FilesOpened x = house();
            due.no("none such", x.appeal(0, true));
            x.finding(0, 0);
            due.yes("the first", x.appeal(0, first == 1));
            due.no("there was one, granted", x.appeal(0, true));
            due.no("there was one, not granted", x.appeal(0, false));
            due.is("as the first one", x.stands(0, 0), 1 - first);
            due.no("none such behind it", x.appeal(1, true));
            due.no("none such ahead of it", x.appeal(NONE, true));
        }
    }

    /** 44: NONE ahead of the DAY on which it was told. */
    private static void aheadOfItsDay() {
        FilesOpened x = house();
        x.finding(0, 0);
        x.clock(3999);
        x.finding(0, 0);
        due.is("told on day 0", x.stands(0, 0), 1);
        due.is("told on day 0, day -1", x.stands(0, NONE), NONE);
        due.is("told on the last day", x.stands(1, 3999), 1);
        due.is("ahead of the last day", x.stands(1, 3998), NONE);
        due.is("behind the last day", x.stands(1, 4000), NONE);
        due.is("none such", x.stands(2, 3999), NONE);
    }

    /** 15, 49: rank 0 to 99 of an office, or NONE. */
    private static void ranks() {
        FilesOpened x = house();
        int[] want = {0, 99, NONE};
        for (int person = 0; person < 3; person++) {
            due.is("rank of " + person, x.persons(person, 0), want[person]);
            due.is("lost by " + person, x.persons(person, 1), NONE);
            due.is("given back to " + person, x.persons(person, 2), 0);
        }
        x.finding(0, 0);
        due.yes("rank 0 is an office", x.lose(0));
        due.is("lost", x.persons(0, 0), NONE);
    }

    /** 47: he has none (any more). */
    private static void losesOnce() {
        FilesOpened x = house();
        x.finding(2, 0);
        x.finding(1, 0);
        x.finding(1, 1);
        due.no("he never had one", x.lose(0));
        due.is("not lost by it", x.persons(2, 1), NONE);
        due.yes("he loses it", x.lose(1));
        due.no("by the same again", x.lose(1));
        due.no("by another", x.lose(2));
        due.is("lost by the first", x.persons(1, 1), 1);
        due.no("none such", x.lose(3));
        due.no("finding -1", x.lose(NONE));
    }

    /** 47: it does not STAND on the DAY on which it is told to his office. */
    private static void doesNotStand() {
        FilesOpened x = house();
        x.finding(0, 0);
        x.finding(1, 0);
        x.clock(1);
        x.report(0, 0, 0, 0, 1, 10, 10);
        due.no("no candidate now", x.lose(0));
        due.is("he keeps it", x.persons(0, 0), 0);
        x.appeal(1, true);
        due.no("an appeal was granted", x.lose(1));
        x.clock(2);
        x.fall(0);
        due.yes("a candidate again", x.lose(0));
        Due.write(x, "need 1 if 1=1");
        x.finding(1, 1);
        x.law(3);
        x.clock(3);
        due.no("need is more today", x.lose(2));
        x.bill(0, 1, 1, 0);
        due.yes("and is met", x.lose(2));
    }

    /** 48: to all that lost one by a FINDING that does not STAND now: how many. */
    private static void givenBackToAll() {
        FilesOpened x = house();
        x.person(50);
        due.is("nobody lost any", x.back(), 0);
        x.finding(0, 0);
        x.finding(1, 0);
        x.finding(3, 1);
        for (int finding = 0; finding < 3; finding++) {
            due.yes("lose", x.lose(finding));
        }
        due.is("all stand", x.back(), 0);
        x.clock(2);
        x.appeal(1, true);
        due.is("looked at by a hand", x.persons(1, 0), NONE);
        due.is("one", x.back(), 1);
        due.is("his rank", x.persons(1, 0), 99);
        due.is("by none any more", x.persons(1, 1), NONE);
        due.is("once", x.persons(1, 2), 1);
        due.is("the others have not", x.persons(0, 2) + x.persons(3, 2), 0);
        x.clock(3);
        law(x, "need 1 if 1=1");
        due.is("both others", x.back(), 2);
        due.is("rank 0", x.persons(0, 0), 0);
        due.is("rank 50", x.persons(3, 0), 50);
        due.is("none is left", x.back(), 0);
        due.is("still once", x.persons(1, 2), 1);
    }

    /** A place that was given back may be lost again, and be given back again. */
    private static void lostAgain() {
        FilesOpened x = house();
        x.finding(0, 0);
        for (int times = 1; times <= 3; times++) {
            due.yes("lost", x.lose(0));
            due.is("by it", x.persons(0, 1), 0);
            int report = x.report(0, 0, 0, 0, 1, 10, 10);
            due.no("told again while he has none", x.lose(0));
            due.is("given back", x.back(), 1);
            due.is("how often", x.persons(0, 2), times);
            due.no("it does not stand", x.lose(0));
            due.yes("the report falls", x.fall(report));
        }
        x.finding(0, 1);
        x.lose(1);
        x.appeal(0, true);
        due.is("another finding fell", x.back(), 0);
        due.is("lost by the one that stands", x.persons(0, 1), 1);
    }
}
