import java.util.List;
import java.util.Map;

/**
 * Every number that a call takes: the least that is allowed and the one below it, the greatest and the one above it,
 * and the ends of the int. What is refused has changed nothing that can be seen.
 */
public final class RangesTest {
    private static final int NONE = FilesOpened.NONE;
    private static final Due due = new Due();
    private static final Map<String, List<Long>> UNTOUCHED = Looks.at(House::tell);

    private interface Call {
        long of(FilesOpened x, int number);
    }

    private RangesTest() {
    }

    public static void main(String[] args) {
        clockAndScraps();
        laying();
        sheets();
        persons();
        reports();
        known();
        accounts();
        laws();
        lines();
        readers();
        findings();
        orders();
        due.end();
    }

    /** The answers at both ends of a range, and the one to all numbers outside it. */
    private static void range(String name, Call call, int least, int most, long atLeast, long atMost, long refused) {
        answer(name, call, least, atLeast);
        answer(name, call, most, atMost);
        refuse(name, call, least - 1, refused);
        refuse(name, call, most + 1, refused);
        refuse(name, call, Integer.MIN_VALUE, refused);
        refuse(name, call, Integer.MAX_VALUE, refused);
    }

    private static void range(String name, Call call, int least, int most, long answer) {
        range(name, call, least, most, answer, answer, NONE);
    }

    private static void yes(String name, Call call, int least, int most) {
        range(name, call, least, most, 1, 1, 0);
    }

    private static long bit(boolean yes) {
        return yes ? 1 : 0;
    }

    private static void answer(String name, Call call, int number, long want) {
        FilesOpened x = new FilesOpened();
        House.tell(x);
        due.is(name + " at " + number, call.of(x, number), want);
    }

    private static void refuse(String name, Call call, int number, long refused) {
        answer(name, call, number, refused);
        Looks.alike(due, name + " at " + number, UNTOUCHED, Looks.at(x -> {
            House.tell(x);
            call.of(x, number);
        }));
    }

    private static void clockAndScraps() {
        yes("clock(day)", (x, v) -> bit(x.clock(v)), House.NOW, 3999);
        range("sack(hours)", FilesOpened::sack, 1, 999, 3);
        range("scrap(sack)", (x, v) -> x.scrap(v, 0, 0), 0, 2, 6);
        range("scrap(hand)", (x, v) -> x.scrap(0, v, 0), 0, 15, 6);
        range("scraps(k)", (x, v) -> x.scraps(v, 0), 0, 5, 0, 1, -40000);
        range("scraps(what)", (x, v) -> x.scraps(5, v), 0, 6, 1, -1, -40000);
        range("fits(a)", (x, v) -> x.fits(v, 1, 0), 0, 5, 1, 0, NONE);
        range("fits(b)", (x, v) -> x.fits(2, v, 0), 0, 5, 0, 0, NONE);
        range("fits(how)", (x, v) -> x.fits(0, 1, v), 0, 1, 1, 0, NONE);
        refuse("fits, both one", (x, v) -> x.fits(v, v, 0), 0, NONE);
        refuse("fits, both one", (x, v) -> x.fits(v, v, 1), 5, NONE);
    }

    private static void laying() {
        range("lay(sack)", (x, v) -> x.lay(v, 1, 1), 1, 1, 0);
        range("lay(columns)", (x, v) -> x.lay(0, v, 1), 3, 3, 1);
        range("lay(rows)", (x, v) -> x.lay(0, 1, v), 3, 3, 1);
        range("laid(way)", (x, v) -> x.laid(v, 1), 0, 1, 3, 4, NONE);
        range("laid(k)", (x, v) -> x.laid(0, v), NONE, 2, 4, 4, NONE);
        range("judged(columns)", (x, v) -> x.judged(v, 1, Due.packed(8, 0, 1, 2, 3, 4, 5, 6)), 1, 6, 0, 2, NONE);
        range("judged(rows)", (x, v) -> x.judged(1, v, Due.packed(8, 3, 4, 1, 2, 5, 0, 6)), 1, 6, 0, 1, NONE);
        range("take(way)", FilesOpened::take, 0, 1, 5);
    }

    private static void sheets() {
        range("tear(sheet)", FilesOpened::tear, 0, 2, 2, 0, NONE);
        range("tear(sheet) behind a torn one", FilesOpened::tear, 4, 4, 0);
        yes("open(sheet)", (x, v) -> bit(x.open(v)), 2, 2);
        yes("open(sheet) behind a torn one", (x, v) -> bit(x.open(v)), 4, 4);
        range("sheets(k)", (x, v) -> x.sheets(v, 3), 0, 4, 2, 0, NONE);
        range("sheets(what)", (x, v) -> x.sheets(0, v), 0, 6, 0, 1, NONE);
    }

    private static void persons() {
        range("person(rank)", FilesOpened::person, NONE, 99, 4);
        range("seen(person)", (x, v) -> x.seen(v, 0, 0, 0), 0, 3, 3);
        range("seen(place)", (x, v) -> x.seen(0, v, 0, 0), 0, 99, 3);
        range("seen(from)", (x, v) -> x.seen(0, 0, v, 9999), 0, 9999, 3);
        range("seen(from), no later than to", (x, v) -> x.seen(0, 0, v, 7), 0, 7, 3);
        range("seen(to), no earlier than from", (x, v) -> x.seen(0, 0, 7, v), 7, 9999, 3);
        yes("unsee(seen)", (x, v) -> bit(x.unsee(v)), 0, 1);
        range("cover(officer)", FilesOpened::cover, 0, 9, 3);
    }

    private static void reports() {
        range("report(sheet)", (x, v) -> x.report(v, 0, 0, 0, 0, 0, 0), 0, 2, 5);
        range("report(sheet) behind a torn one", (x, v) -> x.report(v, 0, 0, 0, 0, 0, 0), 4, 4, 5);
        range("report(cover)", (x, v) -> x.report(0, v, 0, 0, 0, 0, 0), 0, 2, 5);
        range("report(person)", (x, v) -> x.report(0, 0, v, 0, 0, 0, 0), 0, 3, 5);
        range("report(act)", (x, v) -> x.report(0, 0, 0, v, 0, 0, 0), 0, 31, 5);
        range("report(place)", (x, v) -> x.report(0, 0, 0, 0, v, 0, 0), 0, 99, 5);
        range("report(day)", (x, v) -> x.report(0, 0, 0, 0, 0, v, 9999), 0, 9999, 5);
        range("report(day), not behind written", (x, v) -> x.report(0, 0, 0, 0, 0, v, 7), 0, 7, 5);
        range("report(written), not ahead of the deed", (x, v) -> x.report(0, 0, 0, 0, 0, 7, v), 7, 9999, 5);
        yes("fall(report)", (x, v) -> bit(x.fall(v)), 0, 2);
    }

    private static void known() {
        range("known(report)", (x, v) -> x.known(v, 10), 0, 4, 1, 0, NONE);
        range("known(day)", (x, v) -> x.known(0, v), 0, 3999, 0, 1, NONE);
        range("out(cover)", (x, v) -> x.out(v, 0, 10), 0, 2, 0, NONE, -2);
        range("out(person)", (x, v) -> x.out(0, v, 10), 0, 3, 0, NONE, -2);
        range("out(day)", (x, v) -> x.out(0, 0, v), 0, 3999, NONE, 0, -2);
        range("candidate(cover)", (x, v) -> x.candidate(v, 10, NONE), 0, 2, 2, 4, NONE);
        range("candidate(day)", (x, v) -> x.candidate(0, v, NONE), 0, 3999, 4, 2, NONE);
        range("candidate(k)", (x, v) -> x.candidate(0, 10, v), NONE, 1, 2, 3, NONE);
        range("sure(cover)", (x, v) -> x.sure(v, 10), 0, 2, NONE);
        range("sure(day)", (x, v) -> x.sure(0, v), 0, 3999, NONE);
        range("next(cover)", FilesOpened::next, 0, 2, 2, NONE, NONE);
        range("made(report)", (x, v) -> x.made(v, 10, 0), 0, 4, 0, 0, -2);
        range("made(day)", (x, v) -> x.made(1, v, 1), 0, 3999, NONE, 0, -2);
        range("made(what)", (x, v) -> x.made(0, 10, v), 0, 1, 0, NONE, -2);
    }

    private static void accounts() {
        range("premium(act)", (x, v) -> x.premium(v, 5), 0, 31, 0, 999, NONE);
        range("premium(coins)", (x, v) -> x.premium(1, v), 0, 999, 30);
        range("bill(sheet)", (x, v) -> x.bill(v, 0, 1, 0), 0, 2, 3);
        range("bill(sheet) behind a torn one", (x, v) -> x.bill(v, 0, 1, 0), 4, 4, 3);
        range("bill(cover)", (x, v) -> x.bill(0, v, 1, 0), 0, 2, 3);
        range("bill(coins)", (x, v) -> x.bill(0, 0, v, 0), 1, 9999, 3);
        range("bill(day)", (x, v) -> x.bill(0, 0, 1, v), 0, 9999, 3);
        range("account(officer)", (x, v) -> x.account(v, 10), 0, 9, 70, 9999, -2000000000);
        range("account(day)", (x, v) -> x.account(0, v), 0, 3999, 0, 70, -2000000000);
    }

    private static void laws() {
        range("end(n)", FilesOpened::end, 0, 25, 0, 25, NONE);
        range("law(day)", FilesOpened::law, House.NOW, 3999, 3);
        range("force(day)", FilesOpened::force, 0, 3999, 0, 2, NONE);
        range("need(cover)", (x, v) -> x.need(v, 10), 0, 2, 2);
        range("need(day)", (x, v) -> x.need(0, v), 0, 3999, 1, 0, NONE);
    }

    private static void lines() {
        range("line(sheet)", (x, v) -> x.line(v, 0, 1, 0), 0, 2, 2, 0, NONE);
        range("line(sheet) behind a torn one", (x, v) -> x.line(v, 0, 1, 0), 4, 4, 1);
        range("line(length)", (x, v) -> x.line(2, 0, v, 0), 1, 200, 0);
        range("line(word)", (x, v) -> x.line(2, 0, 1, v), 0, 999999, 0);
    }

    private static void readers() {
        range("reader(person)", (x, v) -> x.reader(v, false), NONE, 3, 4);
        range("may(reader)", (x, v) -> x.may(v, 0, 0), 0, 3, 0);
        range("may(sheet)", (x, v) -> x.may(0, v, 0), 0, 1, 0);
        range("may(sheet) behind a torn one", (x, v) -> x.may(0, v, 0), 4, 4, 0);
        range("may(line)", (x, v) -> x.may(0, 0, v), 0, 1, 0);
        yes("ask(reader) ahead of those who wait", (x, v) -> bit(x.ask(v, 0)), 0, 0);
        yes("ask(reader) behind those who wait", (x, v) -> bit(x.ask(v, 0)), 3, 3);
        yes("ask(sheet)", (x, v) -> bit(x.ask(0, v)), 0, 2);
        yes("ask(sheet) behind a torn one", (x, v) -> bit(x.ask(0, v)), 4, 4);
        range("turn(reader)", FilesOpened::turn, 1, 2, 1, 0, Long.MIN_VALUE);
        range("told(reader)", (x, v) -> x.told(v, 0, 0), 0, 3, 111, NONE, NONE);
        range("told(sheet)", (x, v) -> x.told(0, v, 0), 0, 4, 111, NONE, NONE);
        range("told(line)", (x, v) -> x.told(0, 0, v), 0, 1, 111, -22, NONE);
        range("together(reader)", (x, v) -> x.together(v, 0, NONE), 0, 3, 4);
        range("together(cover)", (x, v) -> x.together(0, v, NONE), 0, 2, 4);
        range("together(sheet)", (x, v) -> x.together(0, 0, v), NONE, 4, 4);
    }

    private static void findings() {
        range("finding(person)", (x, v) -> x.finding(v, 0), 0, 3, 3);
        range("finding(cover)", (x, v) -> x.finding(0, v), 0, 2, 3);
        range("stands(finding)", (x, v) -> x.stands(v, 10), 0, 2, 1, 0, NONE);
        range("stands(day)", (x, v) -> x.stands(0, v), 5, 3999, 1);
        yes("appeal(finding) ahead of one that had it", (x, v) -> bit(x.appeal(v, true)), 0, 0);
        yes("appeal(finding) behind one that had it", (x, v) -> bit(x.appeal(v, false)), 2, 2);
        yes("lose(finding)", (x, v) -> bit(x.lose(v)), 1, 1);
        range("persons(k)", (x, v) -> x.persons(v, 0), 0, 3, 0, 5, -2);
        range("persons(what)", (x, v) -> x.persons(1, v), 0, 2, NONE, 0, -2);
    }

    private static void orders() {
        range("asker(needs)", (x, v) -> x.asker(v, 1), 1, 511, 3);
        range("asker(weight)", (x, v) -> x.asker(1, v), 1, 99, 3);
        range("order(n)", (x, v) -> x.order(v, Due.packed(5, 0, 1, 2)), 3, 3, 47);
        range("ordered(k)", FilesOpened::ordered, 0, 1, 1, 0, NONE);
        range("count(what)", FilesOpened::count, 0, 15, House.NOW, 2, NONE);
    }
}
