import java.util.function.Consumer;

/** Calls that are refused for what stands in the house, and questions: nothing that can be seen has changed by them. */
public final class RefusedTest {
    private static final int NONE = FilesOpened.NONE;
    private static final Due due = new Due();

    private interface Call {
        long of(FilesOpened x);
    }

    private RefusedTest() {
    }

    public static void main(String[] args) {
        layings();
        sheets();
        fallen();
        tornSheets();
        fullOnes();
        laws();
        readers();
        findings();
        orders();
        questions();
        due.end();
    }

    /** The call answers so in the house of the story and leaves it as it was. */
    private static void idle(String name, Consumer<FilesOpened> story, Call call, long want) {
        FilesOpened x = new FilesOpened();
        story.accept(x);
        due.is(name, call.of(x), want);
        Looks.alike(due, name, Looks.at(story), Looks.at(y -> {
            story.accept(y);
            call.of(y);
        }));
    }

    private static void idle(String name, Call call, long want) {
        idle(name, House::tell, call, want);
    }

    private static Consumer<FilesOpened> houseAnd(Consumer<FilesOpened> more) {
        return x -> {
            House.tell(x);
            more.accept(x);
        };
    }

    private static Consumer<FilesOpened> houseAnd(int times, Consumer<FilesOpened> more) {
        return houseAnd(x -> {
            for (int i = 0; i < times; i++) {
                more.accept(x);
            }
        });
    }

    private static long bit(boolean yes) {
        return yes ? 1 : 0;
    }

    /** 7: no such SACK, no loose SCRAPS, more than 8, or another shape. */
    private static void layings() {
        idle("lay, no such sack", x -> x.lay(3, 1, 1), NONE);
        idle("lay, no loose scraps", x -> x.lay(2, 1, 1), NONE);
        idle("lay, another shape", x -> x.lay(0, 2, 2), NONE);
        idle("lay, a shape below 0", x -> x.lay(0, -3, -1), NONE);
        idle("lay, more than 8", houseAnd(9, x -> x.scrap(2, 0, 0)), x -> x.lay(2, 3, 3), NONE);
    }

    /** 10, 12, 13: no such way, a SCRAP that is not loose; TORN already; open. */
    private static void sheets() {
        idle("take, no such way", houseAnd(x -> x.lay(1, 1, 1)), x -> x.take(1), NONE);
        idle("take, not loose", houseAnd(x -> x.take(1)), x -> x.take(0), NONE);
        idle("take the same way, not loose", houseAnd(x -> x.take(1)), x -> x.take(1), NONE);
        idle("tear, torn already", x -> x.tear(3), NONE);
        idle("tear, none such", x -> x.tear(5), NONE);
        idle("open, torn", x -> bit(x.open(3)), 0);
        idle("open, open", x -> bit(x.open(0)), 0);
        idle("open, none such", x -> bit(x.open(5)), 0);
    }

    /** 17, 20: none such, or fallen (with its SHEET, too). */
    private static void fallen() {
        idle("unsee, fallen", x -> bit(x.unsee(2)), 0);
        idle("unsee, none such", x -> bit(x.unsee(3)), 0);
        idle("fall, fallen by a hand", x -> bit(x.fall(4)), 0);
        idle("fall, fallen with its sheet", x -> bit(x.fall(3)), 0);
        idle("fall, none such", x -> bit(x.fall(5)), 0);
    }

    /** 19, 28, 34, 36, 38: the SHEET is TORN. */
    private static void tornSheets() {
        idle("report of a torn sheet", x -> x.report(3, 0, 0, 0, 0, 0, 0), NONE);
        idle("bill of a torn sheet", x -> x.bill(3, 0, 1, 0), NONE);
        idle("line of a torn sheet", x -> x.line(3, 0, 1, 0), NONE);
        idle("ask for a torn sheet", x -> bit(x.ask(0, 3)), 0);
        Consumer<FilesOpened> torn = houseAnd(x -> x.tear(1));
        idle("may read a torn sheet", torn, x -> x.may(2, 1, 0), NONE);
        idle("call, of those who wait all for closed or torn ones", torn, x -> x.call(), NONE);
    }

    /** There are as many as there may be. */
    private static void fullOnes() {
        idle("sack 20", houseAnd(17, x -> x.sack(1)), x -> x.sack(1), NONE);
        idle("person 60", houseAnd(56, x -> x.person(1)), x -> x.person(1), NONE);
        idle("cover 40", houseAnd(37, x -> x.cover(1)), x -> x.cover(1), NONE);
        idle("line 20", houseAnd(19, x -> x.line(1, 1, 1, 1)), x -> x.line(1, 1, 1, 1), NONE);
        idle("line that names none such", x -> x.line(1, 16, 1, 1), NONE);
        idle("line that names bit 63", x -> x.line(1, Long.MIN_VALUE, 1, 1), NONE);
        idle("reader 30", houseAnd(26, x -> x.reader(0, true)), x -> x.reader(0, true), NONE);
        idle("finding 60", houseAnd(57, x -> x.finding(0, 0)), x -> x.finding(0, 0), NONE);
        idle("asker 13", houseAnd(10, x -> x.asker(1, 1)), x -> x.asker(1, 1), NONE);
    }

    /** 30 to 32: more than 400 bytes; not so many; 20 laws; the DAY. */
    private static void laws() {
        Consumer<FilesOpened> full = houseAnd(18, x -> x.feed(0, 1, 2, 3, 4));
        idle("feed at 385", full, x -> x.feed(0x7475726e, 0x20302020, 0, 0, 0), NONE);
        idle("end, not so many", full, x -> x.end(386), NONE);
        idle("end, below 0", full, x -> x.end(NONE), NONE);
        idle("end, all of them", full, x -> x.end(385), 385);
        Consumer<FilesOpened> twenty = houseAnd(x -> {
            x.end(0);
            for (int i = 0; i < 17; i++) {
                Due.law(x, "turn 1");
            }
            Due.write(x, "turn 2");
        });
        idle("law 20", twenty, x -> x.law(House.NOW), NONE);
        idle("law of a day gone by", x -> x.law(House.NOW - 1), NONE);
        idle("law behind the last day", x -> x.law(4000), NONE);
    }

    /** 38, 40: he waits already; nobody. */
    private static void readers() {
        idle("ask, he waits for it", x -> bit(x.ask(2, 1)), 0);
        idle("ask, he waits for another", x -> bit(x.ask(1, 0)), 0);
        idle("ask, no reader", x -> bit(x.ask(4, 0)), 0);
        idle("ask, no sheet", x -> bit(x.ask(0, 5)), 0);
        idle("call, all wait for closed ones", houseAnd(x -> x.call()), x -> x.call(), NONE);
        idle("clock, a day gone by", x -> bit(x.clock(House.NOW - 1)), 0);
        idle("premium of no act", x -> x.premium(32, 1), NONE);
        idle("premium of 1000", x -> x.premium(1, 1000), NONE);
    }

    /** 46, 47: there was one; it does not STAND, he has none (any more). */
    private static void findings() {
        idle("appeal, there was one", x -> bit(x.appeal(1, true)), 0);
        idle("appeal, none such", x -> bit(x.appeal(3, true)), 0);
        idle("lose, he has none any more", x -> bit(x.lose(0)), 0);
        idle("lose, it does not stand", x -> bit(x.lose(2)), 0);
        idle("lose, he never had one", houseAnd(x -> {
            x.clock(20);
            x.finding(2, 2);
        }), x -> bit(x.lose(3)), 0);
        idle("lose, none such", x -> bit(x.lose(3)), 0);
        idle("back, all stand", x -> x.back(), 0);
    }

    /** 51: without these, or if an ASKER needs one that is not of them. */
    private static void orders() {
        idle("order, an asker needs a further one", x -> x.order(2, Due.packed(5, 0, 1)), NONE);
        idle("order, one twice", x -> x.order(3, Due.packed(5, 0, 1, 0)), NONE);
        idle("order, no such sack", x -> x.order(3, Due.packed(5, 0, 1, 3)), NONE);
        idle("order of 0", x -> x.order(0, Due.packed(5, 0, 1, 2)), NONE);
        idle("order of 10", x -> x.order(10, Due.packed(5, 0, 1, 2)), NONE);
    }

    /** Answers that are no refusals, of calls that only ask. */
    private static void questions() {
        idle("fits", x -> x.fits(2, 3, 0), 1);
        idle("laid", x -> x.laid(1, 1), 4);
        idle("judged", x -> x.judged(2, 1, Due.packed(8, 0, 1)), 1);
        idle("scraps", x -> x.scraps(0, 6), 0);
        idle("sheets", x -> x.sheets(3, 2), 5);
        idle("known", x -> x.known(0, 2), 1);
        idle("out", x -> x.out(0, 2, 2), 0);
        idle("candidate", x -> x.candidate(0, 10, 1), 3);
        idle("sure", x -> x.sure(0, 10), NONE);
        idle("next", x -> x.next(0), 2);
        idle("made 0", x -> x.made(0, 4, 0), 0);
        idle("made 1", x -> x.made(1, 2, 1), 0);
        idle("account", x -> x.account(0, 10), 70);
        idle("force", x -> x.force(8), 1);
        idle("why", x -> x.why(), 0);
        idle("may, by the same clause again", x -> x.may(3, 1, 0), 0);
        idle("turn", x -> x.turn(1), 1);
        idle("told", x -> x.told(0, 0, 1), -22);
        idle("together", x -> x.together(0, 0, 2), 2);
        idle("stands", x -> x.stands(0, 5), 1);
        idle("need", x -> x.need(0, 5), 1);
        idle("persons", x -> x.persons(1, 1), 0);
        idle("ordered", x -> x.ordered(0), 1);
        idle("count", x -> x.count(14), 25);
        idle("clock, its own day", x -> bit(x.clock(House.NOW)), 1);
    }
}
