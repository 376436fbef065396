import java.util.List;
import java.util.Map;

/** Promise 1: a new object, in which there is nothing; each call is tried on one that is as new. */
public final class EmptyHouseTest {
    private static final int NONE = FilesOpened.NONE;
    private static final Due due = new Due();
    private static final Map<String, List<Long>> NEW = Looks.at(x -> { });

    private interface Call {
        long of(FilesOpened x);
    }

    private EmptyHouseTest() {
    }

    public static void main(String[] args) {
        counts();
        asking();
        refused();
        refusedAnswers();
        firsts();
        due.end();
    }

    private static void is(String name, Call call, long want) {
        due.is("new: " + name, call.of(new FilesOpened()), want);
    }

    /** The call answers so and leaves the object as new. */
    private static void idle(String name, Call call, long want) {
        is(name, call, want);
        Looks.alike(due, "new: " + name, NEW, Looks.at(call::of));
    }

    private static long bit(boolean yes) {
        return yes ? 1 : 0;
    }

    private static void counts() {
        for (int what = 0; what <= 15; what++) {
            int of = what;
            idle("count(" + what + ")", x -> x.count(of), 0);
        }
        idle("count(16)", x -> x.count(16), NONE);
        idle("count(-1)", x -> x.count(NONE), NONE);
    }

    /** Questions that have an answer even so. */
    private static void asking() {
        idle("clock(0), its own day", x -> bit(x.clock(0)), 1);
        idle("why()", x -> x.why(), NONE);
        idle("account(0, 0)", x -> x.account(0, 0), 0);
        idle("account(9, 3999)", x -> x.account(9, 3999), 0);
        idle("premium(0, 0), 0 at first", x -> x.premium(0, 0), 0);
        idle("premium(31, 0), 0 at first", x -> x.premium(31, 0), 0);
        idle("force(0)", x -> x.force(0), NONE);
        idle("force(3999)", x -> x.force(3999), NONE);
        idle("end(0)", x -> x.end(0), 0);
        idle("law(0) of an empty tape", x -> x.law(0), Due.fault(0, 0));
        idle("law(3999) of an empty tape", x -> x.law(3999), Due.fault(0, 0));
        idle("back()", x -> x.back(), 0);
        idle("call()", x -> x.call(), NONE);
    }

    private static void refused() {
        idle("clock(-1)", x -> bit(x.clock(NONE)), 0);
        idle("scrap of no sack", x -> x.scrap(0, 0, 0), NONE);
        idle("take(0)", x -> x.take(0), NONE);
        idle("tear(0)", x -> x.tear(0), NONE);
        idle("open(0)", x -> bit(x.open(0)), 0);
        idle("seen of nobody", x -> x.seen(0, 0, 0, 0), NONE);
        idle("unsee(0)", x -> bit(x.unsee(0)), 0);
        idle("report of no sheet", x -> x.report(0, 0, 0, 0, 0, 0, 0), NONE);
        idle("fall(0)", x -> bit(x.fall(0)), 0);
        idle("bill of no sheet", x -> x.bill(0, 0, 1, 0), NONE);
        idle("end(1)", x -> x.end(1), NONE);
        idle("law ahead of now", x -> x.law(NONE), NONE);
        idle("line of no sheet", x -> x.line(0, 0, 1, 0), NONE);
        idle("reader who is person 0", x -> x.reader(0, false), NONE);
        idle("ask(0, 0)", x -> bit(x.ask(0, 0)), 0);
        idle("finding(0, 0)", x -> x.finding(0, 0), NONE);
        idle("appeal(0, true)", x -> bit(x.appeal(0, true)), 0);
        idle("lose(0)", x -> bit(x.lose(0)), 0);
        idle("order(0, 0)", x -> x.order(0, 0), NONE);
        idle("order(1, 0)", x -> x.order(1, 0), NONE);
        idle("lay(0, 1, 1)", x -> x.lay(0, 1, 1), NONE);
    }

    private static void refusedAnswers() {
        idle("scraps(0, 0)", x -> x.scraps(0, 0), -40000);
        idle("fits(0, 1, 0)", x -> x.fits(0, 1, 0), NONE);
        idle("laid(0, -1)", x -> x.laid(0, NONE), NONE);
        idle("laid(0, 0)", x -> x.laid(0, 0), NONE);
        idle("judged(1, 1, 0)", x -> x.judged(1, 1, 0), NONE);
        idle("sheets(0, 0)", x -> x.sheets(0, 0), NONE);
        idle("known(0, 0)", x -> x.known(0, 0), NONE);
        idle("out(0, 0, 0)", x -> x.out(0, 0, 0), -2);
        idle("candidate(0, 0, -1)", x -> x.candidate(0, 0, NONE), NONE);
        idle("sure(0, 0)", x -> x.sure(0, 0), NONE);
        idle("next(0)", x -> x.next(0), NONE);
        idle("made(0, 0, 0)", x -> x.made(0, 0, 0), -2);
        idle("made(0, 0, 1)", x -> x.made(0, 0, 1), -2);
        idle("may(0, 0, 0)", x -> x.may(0, 0, 0), NONE);
        idle("turn(0)", x -> x.turn(0), Long.MIN_VALUE);
        idle("told(0, 0, 0)", x -> x.told(0, 0, 0), NONE);
        idle("together(0, 0, -1)", x -> x.together(0, 0, NONE), NONE);
        idle("stands(0, 0)", x -> x.stands(0, 0), NONE);
        idle("need(0, 0)", x -> x.need(0, 0), NONE);
        idle("persons(0, 0)", x -> x.persons(0, 0), -2);
        idle("ordered(0)", x -> x.ordered(0), NONE);
    }

    /** What needs nothing else may come first. */
    private static void firsts() {
        is("sack", x -> x.sack(1), 0);
        is("sheet", x -> x.sheet(), 0);
        is("person", x -> x.person(0), 0);
        is("cover", x -> x.cover(0), 0);
        is("reader who is nobody", x -> x.reader(NONE, false), 0);
        is("asker", x -> x.asker(1, 1), 1);
        is("feed", x -> x.feed(0, 0, 0, 0, 0), 20);
        is("law", x -> Due.law(x, "turn 1"), 0);
    }
}
