/** Promises 1 (a new object), 2 (clock) and 53 (count). */
public final class CountTest {
    public static void main(String[] args) {
        Due due = new Due();
        FilesOpened x = new FilesOpened();
        for (int what = 0; what <= 15; what++) {
            due.is("new count(" + what + ")", x.count(what), 0);
        }
        due.is("count(-1)", x.count(-1), -1);
        due.is("count(16)", x.count(16), -1);

        due.yes("clock(0)", x.clock(0));
        due.no("clock(-1)", x.clock(-1));
        due.yes("clock(7)", x.clock(7));
        due.yes("clock(7) again", x.clock(7));
        due.no("clock(6)", x.clock(6));
        due.is("count(0)", x.count(0), 7);
        due.no("clock(4000)", x.clock(4000));
        due.yes("clock(3999)", x.clock(3999));
        due.is("count(0) at the last day", x.count(0), 3999);

        x = new FilesOpened();
        x.sack(1);
        for (int i = 0; i < 3; i++) {
            x.scrap(0, 0, 0);
        }
        x.lay(0, 3, 1);
        x.take(0);
        x.scrap(0, 0, 0);
        x.sheet();
        for (int i = 0; i < 5; i++) {
            x.person(-1);
        }
        for (int i = 0; i < 6; i++) {
            x.seen(0, 0, 0, 0);
        }
        for (int i = 0; i < 7; i++) {
            x.cover(0);
        }
        for (int i = 0; i < 8; i++) {
            x.report(1, 0, 0, 0, 0, 0, 0);
        }
        for (int i = 0; i < 9; i++) {
            x.bill(1, 0, 1, 0);
        }
        for (int i = 0; i < 10; i++) {
            Due.law(x, "turn 0");
        }
        for (int i = 0; i < 11; i++) {
            x.reader(-1, false);
        }
        x.ask(3, 0);
        x.ask(4, 0);
        for (int i = 0; i < 13; i++) {
            x.finding(0, 0);
        }
        x.feed(0, 0, 0, 0, 0);
        x.end(14);
        for (int i = 0; i < 4; i++) {
            x.asker(1, 1);
        }
        int[] want = {0, 1, 4, 1, 2, 5, 6, 7, 8, 9, 10, 11, 2, 13, 14, 4};
        for (int what = 0; what < want.length; what++) {
            due.is("count(" + what + ")", x.count(what), want[what]);
        }
        due.end();
    }
}
