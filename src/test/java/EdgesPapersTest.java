/** Promises 15 to 29, a sentence of the document at a time: its edges, its ties, and what falls or is torn. */
public final class EdgesPapersTest {
    private static final int NONE = FilesOpened.NONE;
    private static final Due due = new Due();

    private EdgesPapersTest() {
    }

    public static void main(String[] args) {
        knownFromTheDay();
        closedTillOpened();
        fallenOnTheDay();
        fallenOnceOnly();
        namesAsTheyAreNow();
        seenFromTo();
        elsewhere();
        firstReportOfSeveral();
        allOthers();
        sureWithAReport();
        nearestToTheHalf();
        closedSheetsAlone();
        nobodyCould();
        copiedOfWhat();
        copiedFromWhich();
        copiedAsKnown();
        premiumAsToldLast();
        accountOfWhat();
        accountAsKnown();
        due.end();
    }

    private static FilesOpened house(int persons, int covers, int sheets) {
        FilesOpened x = new FilesOpened();
        for (int i = 0; i < persons; i++) {
            x.person(NONE);
        }
        for (int i = 0; i < covers; i++) {
            x.cover(i);
        }
        for (int i = 0; i < sheets; i++) {
            x.sheet();
        }
        return x;
    }

    private static void report(FilesOpened x, int sheet, int cover, int person, int day) {
        int number = x.count(8);
        due.is("report " + number, x.report(sheet, cover, person, 0, 1, day, day), number);
    }

    /** KNOWN from the DAY on which they come, until they FALL (on that DAY and later they are not there). */
    private static void knownFromTheDay() {
        FilesOpened x = house(2, 1, 1);
        x.open(0);
        x.clock(3);
        report(x, 0, 0, 0, 10);
        x.bill(0, 0, 5, 0);
        x.clock(4);
        x.seen(1, 2, 10, 10);
        x.clock(7);
        x.fall(0);
        report(x, 0, 0, 0, 10);
        x.unsee(0);
        int[][] rows = {{2, 0, 0, NONE, 0}, {3, 1, 0, NONE, 5}, {4, 1, 0, 0, 5}, {6, 1, 0, 0, 5}, {7, 0, 1, NONE, 5},
            {8, 0, 1, NONE, 5}, {3999, 0, 1, NONE, 5}};
        for (int[] row : rows) {
            due.is("report 0 on day " + row[0], x.known(0, row[0]), row[1]);
            due.is("report 1 on day " + row[0], x.known(1, row[0]), row[2]);
            due.is("seen on day " + row[0], x.out(0, 1, row[0]), row[3]);
            due.is("bill on day " + row[0], x.account(0, row[0]), row[4]);
        }
        x.clock(9);
        x.tear(0);
        due.is("report on the day ahead of the tear", x.known(1, 8), 1);
        due.is("report on the day of the tear", x.known(1, 9), 0);
        due.is("bill on the day ahead of the tear", x.account(0, 8), 5);
        due.is("bill on the day of the tear", x.account(0, 9), 0);
    }

    /** Its REPORTS and BILLS are not KNOWN till then, whatever else is said. */
    private static void closedTillOpened() {
        FilesOpened x = house(2, 2, 2);
        report(x, 0, 0, 0, 10);
        x.report(0, 1, 0, 0, 1, 10, 11);
        x.bill(0, 0, 5, 0);
        due.is("law", Due.law(x, "need 1 if reports=0 and bills=0; need 2 if reports=1 and bills=1"), 0);
        x.clock(4);
        due.is("known", x.known(0, 4), 0);
        due.is("out", x.out(0, 0, 4), NONE);
        due.is("candidates", x.candidate(0, 4, NONE), 2);
        due.is("sure", x.sure(0, 4), NONE);
        due.is("copied", x.made(1, 4, 1), NONE);
        due.is("account", x.account(0, 4), 0);
        due.is("need", x.need(0, 4), 1);
        x.open(0);
        due.is("known when opened", x.known(0, 4), 1);
        due.is("not the day ahead", x.known(0, 3), 0);
        due.is("out then", x.out(0, 0, 4), 0);
        due.is("out the day ahead", x.out(0, 0, 3), NONE);
        due.is("sure then", x.sure(0, 4), 1);
        due.is("sure the day ahead", x.sure(0, 3), NONE);
        due.is("copied then", x.made(1, 4, 1), 0);
        due.is("copied the day ahead", x.made(1, 3, 1), NONE);
        due.is("account then", x.account(0, 4), 5);
        due.is("account the day ahead", x.account(0, 3), 0);
        due.is("need then", x.need(0, 4), 2);
        due.is("need the day ahead", x.need(0, 3), 1);
        report(x, 1, 0, 1, 10);
        x.tear(1);
        due.is("torn, it never was open", x.known(2, 3999), 0);
    }

    /** What came on a DAY and fell on it was never KNOWN. */
    private static void fallenOnTheDay() {
        FilesOpened x = house(2, 1, 1);
        x.clock(3);
        x.open(0);
        report(x, 0, 0, 0, 10);
        report(x, 0, 0, 0, 10);
        x.bill(0, 0, 5, 0);
        x.seen(1, 2, 10, 10);
        x.unsee(0);
        due.is("not out by what fell", x.out(0, 1, 3), NONE);
        x.fall(0);
        due.is("out by the other", x.out(0, 0, 3), 1);
        x.tear(0);
        for (int day = 2; day <= 4; day++) {
            due.is("report on day " + day, x.known(0, day), 0);
            due.is("torn report on day " + day, x.known(1, day), 0);
            due.is("bill on day " + day, x.account(0, day), 0);
        }
    }

    /** 17, 20: none such, or fallen (with its SHEET, too); a later tear does not move the day. */
    private static void fallenOnceOnly() {
        FilesOpened x = house(2, 1, 2);
        x.open(0);
        x.open(1);
        report(x, 0, 0, 0, 10);
        report(x, 0, 0, 0, 10);
        report(x, 1, 0, 0, 10);
        x.seen(1, 2, 10, 10);
        x.clock(3);
        due.yes("fall(0)", x.fall(0));
        due.yes("unsee(0)", x.unsee(0));
        x.clock(5);
        due.no("fallen", x.fall(0));
        due.no("fallen sighting", x.unsee(0));
        x.tear(0);
        due.no("fallen with its sheet", x.fall(1));
        due.no("none such", x.fall(3));
        due.no("no such sighting", x.unsee(1));
        due.is("it fell on day 3", x.known(0, 3), 0);
        due.is("the other on day 5", x.known(1, 4), 1);
        due.is("the other from day 5 on", x.known(1, 5), 0);
        due.is("of another sheet", x.known(2, 5), 1);
        due.is("the sighting fell on day 3", x.out(0, 1, 3), NONE);
        due.is("and was there", x.out(0, 1, 2), 0);
    }

    /** PERSONS, COVERS, PREMIUMS are as they are now, on whatever DAY something is asked as KNOWN. */
    private static void namesAsTheyAreNow() {
        FilesOpened x = house(1, 0, 1);
        x.clock(5);
        x.person(NONE);
        x.cover(4);
        due.is("candidates on day 0", x.candidate(0, 0, NONE), 2);
        due.is("a later person on day 0", x.out(0, 1, 0), NONE);
        due.is("need of a later cover on day 0", x.need(0, 0), 99);
        due.is("account on day 0", x.account(4, 0), 0);
        x.open(0);
        report(x, 0, 0, 0, 10);
        x.clock(6);
        x.premium(0, 40);
        due.is("premium of day 6 on day 5", x.account(4, 5), -40);
        x.premium(0, 2);
        due.is("as told last", x.account(4, 5), -2);
    }

    /** 16: from a DAY to a DAY of the old time, both of them in it. */
    private static void seenFromTo() {
        int[][] rows = {{9, 0}, {10, 1}, {11, 1}, {12, 1}, {13, 0}};
        for (int[] row : rows) {
            FilesOpened x = house(2, 1, 1);
            x.open(0);
            report(x, 0, 0, 0, row[0]);
            x.seen(1, 2, 10, 12);
            due.is("deed on day " + row[0], x.candidate(0, 0, NONE), 1 - row[1]);
        }
        int[][] ends = {{0, 0, 0}, {9999, 9999, 9999}, {0, 9999, 0}, {0, 9999, 9999}};
        for (int[] row : ends) {
            FilesOpened x = house(2, 1, 1);
            x.open(0);
            report(x, 0, 0, 0, row[2]);
            due.is("seen " + row[0] + " to " + row[1], x.seen(1, 0, row[0], row[1]), 0);
            due.is("deed on day " + row[2] + " of it", x.out(0, 1, 0), 0);
        }
    }

    /** SEEN on its OLD DAY of the deed at some PLACE, and not at its own. */
    private static void elsewhere() {
        FilesOpened x = house(3, 1, 1);
        x.open(0);
        x.report(0, 0, 0, 0, 1, 10, 20);
        due.is("not seen", x.out(0, 1, 0), NONE);
        x.seen(1, 2, 20, 20);
        due.is("on the day on which it was written", x.out(0, 1, 0), NONE);
        x.seen(1, 1, 10, 10);
        due.is("at its own place", x.out(0, 1, 0), NONE);
        x.seen(1, 2, 10, 10);
        due.is("at both", x.out(0, 1, 0), NONE);
        x.unsee(1);
        due.is("at another alone", x.out(0, 1, 0), 0);
        x.seen(1, 0, 0, 99);
        x.seen(1, 1, 9, 11);
        due.is("at its own, too, again", x.out(0, 1, 0), NONE);
        due.is("another person", x.out(0, 2, 0), NONE);
        x.seen(0, 1, 10, 10);
        due.is("of whom it tells is out, though he was there", x.out(0, 0, 0), 0);
        x.seen(2, 99, 10, 10);
        due.is("place 99", x.out(0, 2, 0), 0);
        FilesOpened y = house(4, 1, 1);
        y.open(0);
        y.report(0, 0, 0, 0, 1, 10, 20);
        for (int person = 1; person < 4; person++) {
            y.seen(person, 2, 10, 10);
            y.seen(person, 1, 10, 10);
        }
        due.is("three were at both", y.candidate(0, 0, NONE), 3);
    }

    /** 22: the first such REPORT (by numbers) is the one by which he is OUT. */
    private static void firstReportOfSeveral() {
        FilesOpened x = house(3, 2, 2);
        x.open(0);
        x.report(0, 1, 1, 0, 1, 5, 5);
        x.report(1, 0, 1, 0, 1, 5, 5);
        x.report(0, 0, 2, 0, 1, 9, 30);
        x.report(0, 0, 1, 0, 1, 7, 7);
        x.report(0, 0, 1, 0, 1, 5, 5);
        due.is("told of, by the first of this cover", x.out(0, 1, 0), 3);
        x.seen(1, 2, 9, 9);
        due.is("elsewhere by an earlier one", x.out(0, 1, 0), 2);
        due.is("by the other cover", x.out(1, 1, 0), 0);
        x.open(1);
        due.is("opened, a report with a lower number", x.out(0, 1, 0), 1);
        x.fall(1);
        x.fall(2);
        due.is("the first ones fell", x.out(0, 1, 0), 3);
        x.fall(3);
        x.fall(4);
        due.is("all fell", x.out(0, 1, 0), NONE);
    }

    /** 23: CANDIDATES: all others; how many, or the k-th by numbers. */
    private static void allOthers() {
        FilesOpened x = house(4, 2, 1);
        x.open(0);
        due.is("no report", x.candidate(0, 0, NONE), 4);
        report(x, 0, 0, 0, 10);
        report(x, 0, 0, 2, 10);
        int[] want = {2, 1, 3, NONE, NONE};
        for (int k = -1; k <= 3; k++) {
            due.is("k " + k, x.candidate(0, 0, k), want[k + 1]);
        }
        due.is("another cover", x.candidate(1, 0, NONE), 4);
        report(x, 0, 0, 1, 10);
        due.is("the last one", x.candidate(0, 0, 0), 3);
        report(x, 0, 0, 3, 10);
        due.is("nobody left", x.candidate(0, 0, NONE), 0);
        due.is("0th of nobody", x.candidate(0, 0, 0), NONE);
        FilesOpened y = house(0, 1, 0);
        due.is("no persons", y.candidate(0, 0, NONE), 0);
        due.is("0th of no persons", y.candidate(0, 0, 0), NONE);
    }

    /** 24: SURE: the only CANDIDATE, if the COVER has a REPORT KNOWN then. */
    private static void sureWithAReport() {
        FilesOpened x = house(1, 2, 2);
        x.open(0);
        due.is("alone, no report", x.sure(0, 0), NONE);
        report(x, 1, 0, 0, 10);
        due.is("alone, a report that is not known", x.sure(0, 0), NONE);
        x.bill(0, 0, 1, 0);
        due.is("alone, a bill", x.sure(0, 0), NONE);
        report(x, 0, 1, 0, 10);
        due.is("alone, a report by another cover", x.sure(0, 0), NONE);
        due.is("nobody is left", x.sure(1, 0), NONE);
        x.person(NONE);
        due.is("the only one", x.sure(1, 0), 1);
        x.person(NONE);
        due.is("two", x.sure(1, 0), NONE);
        x.clock(2);
        x.seen(1, 2, 10, 10);
        due.is("the only one again", x.sure(1, 2), 2);
        due.is("two the day ahead", x.sure(1, 1), NONE);
        x.seen(2, 2, 10, 10);
        due.is("nobody", x.sure(1, 2), NONE);
        due.is("on the last day", x.sure(1, 3999), NONE);
        x.unsee(1);
        due.is("2 on the last day", x.sure(1, 3999), 2);
        due.is("behind the last day", x.sure(1, 4000), NONE);
        due.is("the last int", x.sure(1, Integer.MAX_VALUE), NONE);
        due.is("no cover", x.sure(2, 3999), NONE);
    }

    /** The sheet would leave so many of five: persons that are not told of were elsewhere. */
    private static void leaves(FilesOpened x, int sheet, int left) {
        int day = 100 + sheet;
        if (left < 5) {
            x.report(sheet, 0, 0, 0, 1, day, day);
        }
        for (int person = 1; person < 5 - left; person++) {
            x.seen(person, 2, day, day);
        }
    }

    private static void next(int want, int... left) {
        FilesOpened x = house(5, 1, left.length);
        StringBuilder name = new StringBuilder("next of");
        for (int i = 0; i < left.length; i++) {
            leaves(x, i, left[i]);
            name.append(' ').append(left[i]);
        }
        due.is(name.toString(), x.next(0), want);
    }

    /** 25: nearest to the half (twice it less these, taken without sign); of several the least; only fewer. */
    private static void nearestToTheHalf() {
        next(NONE, 5);
        next(NONE, 5, 5);
        next(0, 4);
        next(1, 5, 4);
        next(0, 4, 4);
        next(1, 4, 3);
        next(0, 3, 4);
        next(0, 3, 2);
        next(0, 2, 3);
        next(1, 1, 2);
        next(0, 1, 4);
        next(0, 4, 1);
        next(1, 0, 1);
        next(1, 0, 4);
        next(1, 5, 0);
        next(2, 0, 1, 3, 2);
        next(3, 5, 0, 1, 2, 2);
        FilesOpened x = house(1, 1, 1);
        report(x, 0, 0, 0, 10);
        due.is("one candidate, none left", x.next(0), 0);
        FilesOpened y = house(1, 1, 2);
        y.open(0);
        report(y, 0, 0, 0, 10);
        report(y, 1, 0, 0, 10);
        due.is("none to be fewer than", y.next(0), NONE);
    }

    /** Of SHEETS that are closed, those REPORTS by that COVER that did not fall; all of a sheet together. */
    private static void closedSheetsAlone() {
        FilesOpened x = house(4, 2, 4);
        report(x, 0, 1, 0, 10);
        due.is("by another cover", x.next(0), NONE);
        due.is("by that cover", x.next(1), 0);
        report(x, 1, 0, 0, 10);
        report(x, 2, 0, 0, 10);
        report(x, 2, 0, 1, 10);
        due.is("two of one sheet leave the half", x.next(0), 2);
        x.fall(2);
        due.is("one fell, and they are alike", x.next(0), 1);
        x.tear(1);
        due.is("torn", x.next(0), 2);
        x.open(2);
        due.is("opened", x.next(0), NONE);
        report(x, 3, 0, 1, 10);
        due.is("would not leave fewer than are left now", x.next(0), NONE);
        report(x, 3, 0, 2, 10);
        due.is("of three two", x.next(0), 3);
        x.seen(2, 2, 10, 10);
        due.is("who is out by now counts no more", x.next(0), NONE);
        x.unsee(0);
        due.is("and counts again", x.next(0), 3);
    }

    /** 26: every PERSON but the one of whom it tells was ELSEWHERE. */
    private static void nobodyCould() {
        FilesOpened x = house(3, 1, 2);
        report(x, 0, 0, 1, 10);
        due.is("nobody was seen", x.made(0, 0, 0), 0);
        x.seen(0, 2, 10, 10);
        due.is("one of two", x.made(0, 0, 0), 0);
        x.seen(2, 1, 10, 10);
        due.is("the other was there", x.made(0, 0, 0), 0);
        x.unsee(1);
        x.clock(3);
        x.seen(2, 2, 10, 10);
        due.is("both", x.made(0, 3, 0), 1);
        due.is("as known the day ahead", x.made(0, 2, 0), 0);
        x.seen(1, 1, 10, 10);
        due.is("that he was there himself is nothing to it", x.made(0, 3, 0), 1);
        x.fall(0);
        due.is("it need not be known", x.made(0, 3, 0), 1);
        x.clock(4);
        x.unsee(2);
        due.is("a sighting fell", x.made(0, 4, 0), 0);
        due.is("and was there", x.made(0, 3, 0), 1);
        FilesOpened y = house(1, 1, 1);
        report(y, 0, 0, 0, 10);
        due.is("nobody else", y.made(0, 0, 0), 1);
    }

    private static void copy(String name, int want, int cover, int person, int act, int place, int day, int written) {
        FilesOpened x = house(2, 2, 1);
        x.open(0);
        x.report(0, 0, 0, 3, 4, 10, 12);
        x.report(0, cover, person, act, place, day, written);
        due.is(name, x.made(1, 0, 1), want);
        due.is(name + ", the other way round", x.made(0, 0, 1), NONE);
    }

    /** Unlike COVERS, the same ACT of the same PERSON at the same PLACE on the same OLD DAY, written behind. */
    private static void copiedOfWhat() {
        copy("all the same, written behind", 0, 1, 0, 3, 4, 10, 13);
        copy("on one day the greater number", 0, 1, 0, 3, 4, 10, 12);
        copy("the same cover", NONE, 0, 0, 3, 4, 10, 13);
        copy("another person", NONE, 1, 1, 3, 4, 10, 13);
        copy("another act", NONE, 1, 0, 2, 4, 10, 13);
        copy("another place", NONE, 1, 0, 3, 5, 10, 13);
        copy("another day", NONE, 1, 0, 3, 4, 11, 13);
        FilesOpened x = house(2, 2, 1);
        x.open(0);
        x.report(0, 0, 0, 3, 4, 10, 12);
        x.report(0, 1, 0, 3, 4, 10, 11);
        due.is("written ahead, the greater number", x.made(1, 0, 1), NONE);
        due.is("written behind, the least number", x.made(0, 0, 1), 1);
    }

    /** Of several the earliest written, of these the least number. */
    private static void copiedFromWhich() {
        FilesOpened x = house(2, 4, 1);
        x.open(0);
        x.report(0, 1, 0, 3, 4, 10, 14);
        x.report(0, 2, 0, 3, 4, 10, 12);
        x.report(0, 1, 0, 3, 4, 10, 12);
        x.report(0, 0, 0, 3, 4, 10, 15);
        due.is("the earliest, of these the least", x.made(3, 0, 1), 1);
        due.is("not from its own cover", x.made(0, 0, 1), 1);
        due.is("of one day, the greater number", x.made(2, 0, 1), 1);
        x.report(0, 3, 0, 3, 4, 10, 11);
        due.is("an earlier one with a greater number", x.made(3, 0, 1), 4);
        due.is("the former first one, too", x.made(1, 0, 1), 4);
        due.is("the first is none", x.made(4, 0, 1), NONE);
        x.fall(4);
        due.is("it fell", x.made(3, 0, 1), 1);
        x.fall(1);
        due.is("the next of that day", x.made(3, 0, 1), 2);
        x.fall(2);
        due.is("the next day", x.made(3, 0, 1), 0);
        x.fall(0);
        due.is("none is left", x.made(3, 0, 1), NONE);
    }

    /** 26: the REPORT (KNOWN then) from which it is COPIED; it need not be KNOWN itself. */
    private static void copiedAsKnown() {
        FilesOpened x = house(2, 2, 2);
        x.report(0, 0, 0, 3, 4, 10, 12);
        x.report(1, 1, 0, 3, 4, 10, 13);
        due.is("both closed", x.made(1, 0, 1), NONE);
        x.clock(2);
        x.open(1);
        due.is("the earlier closed", x.made(1, 2, 1), NONE);
        x.clock(3);
        x.open(0);
        due.is("opened", x.made(1, 3, 1), 0);
        due.is("the day ahead", x.made(1, 2, 1), NONE);
        x.clock(4);
        x.fall(1);
        due.is("it need not be known", x.made(1, 4, 1), 0);
        x.clock(5);
        x.tear(0);
        due.is("torn", x.made(1, 5, 1), NONE);
        due.is("the day ahead of the tear", x.made(1, 4, 1), 0);
    }

    /** 27: what it was. */
    private static void premiumAsToldLast() {
        FilesOpened x = house(2, 1, 1);
        for (int act = 0; act < 32; act++) {
            due.is("0 at first, act " + act, x.premium(act, 999 - act), 0);
        }
        for (int act = 0; act < 32; act++) {
            due.is("act " + act, x.premium(act, 999), 999 - act);
        }
        due.is("coins 1000", x.premium(7, 1000), NONE);
        due.is("coins -1", x.premium(7, NONE), NONE);
        due.is("nothing happened", x.premium(7, 0), 999);
        due.is("0 it was", x.premium(7, 5), 0);
    }

    /** 29: all BILLS to his COVERS less the PREMIUMS of all REPORTS by them. */
    private static void accountOfWhat() {
        FilesOpened x = new FilesOpened();
        x.person(NONE);
        x.person(NONE);
        x.cover(0);
        x.cover(9);
        x.cover(9);
        x.sheet();
        x.open(0);
        due.is("no bill", x.account(9, 0), 0);
        x.bill(0, 1, 9999, 0);
        x.bill(0, 2, 1, 9999);
        x.bill(0, 0, 70, 0);
        due.is("both covers", x.account(9, 0), 10000);
        due.is("the other officer", x.account(0, 0), 70);
        due.is("an officer without covers", x.account(8, 0), 0);
        x.premium(0, 999);
        x.premium(31, 1);
        x.report(0, 1, 0, 0, 1, 10, 10);
        x.report(0, 2, 0, 31, 1, 10, 10);
        due.is("less 999 and 1", x.account(9, 0), 9000);
        x.report(0, 0, 0, 31, 1, 10, 11);
        due.is("copied of officer 9's", x.account(0, 0), 70);
        x.report(0, 1, 0, 31, 1, 10, 12);
        due.is("copied within one officer's covers", x.account(9, 0), 9000);
        x.seen(1, 2, 10, 10);
        due.is("nobody could", x.account(9, 0), 10000);
    }

    /** By what is KNOWN then. */
    private static void accountAsKnown() {
        FilesOpened x = house(2, 2, 3);
        x.premium(0, 10);
        x.open(1);
        x.report(0, 0, 0, 0, 1, 10, 10);
        x.report(1, 1, 0, 0, 1, 10, 11);
        x.bill(2, 1, 100, 0);
        due.is("day 0", x.account(1, 0), -10);
        x.clock(1);
        x.open(0);
        due.is("copied from day 1 on", x.account(1, 1), 0);
        due.is("the copied one counts", x.account(0, 1), -10);
        x.clock(2);
        x.open(2);
        due.is("the bill from day 2 on", x.account(1, 2), 100);
        x.clock(3);
        x.fall(0);
        due.is("not copied any more", x.account(1, 3), 90);
        due.is("fallen", x.account(0, 3), 0);
        x.clock(4);
        x.seen(1, 2, 10, 10);
        due.is("nobody could have heard it", x.account(1, 4), 100);
        x.clock(5);
        x.unsee(0);
        due.is("somebody could", x.account(1, 5), 90);
        x.clock(6);
        x.tear(2);
        due.is("the bill fell", x.account(1, 6), -10);
        int[] want = {-10, 0, 100, 90, 100, 90, -10};
        for (int day = 0; day <= 6; day++) {
            due.is("looked back at day " + day, x.account(1, day), want[day]);
        }
    }
}
