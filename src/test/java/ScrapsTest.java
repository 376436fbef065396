/** Promises 3 to 9: sacks, scraps, how they fit, how they are laid and judged. */
public final class ScrapsTest {
    private static final Due due = new Due();

    public static void main(String[] args) {
        sacks();
        scraps();
        fits();
        laying();
        sackBySack();
        shapes();
        judging();
        eight();
        due.end();
    }

    private static void sacks() {
        FilesOpened x = new FilesOpened();
        due.is("sack(0)", x.sack(0), -1);
        due.is("sack(1000)", x.sack(1000), -1);
        due.is("sack(-5)", x.sack(-5), -1);
        for (int i = 0; i < 20; i++) {
            due.is("sack " + i, x.sack(i % 2 == 0 ? 1 : 999), i);
        }
        due.is("sack 20", x.sack(1), -1);
        due.is("count(1)", x.count(1), 20);
    }

    private static void scraps() {
        FilesOpened x = new FilesOpened();
        x.sack(1);
        due.is("scrap of no sack", x.scrap(1, 0, 0), -1);
        due.is("scrap of sack -1", x.scrap(-1, 0, 0), -1);
        due.is("hand -1", x.scrap(0, -1, 0), -1);
        due.is("hand 16", x.scrap(0, 16, 0), -1);
        due.is("scrap", x.scrap(0, 15, Due.edges(1, -2, 32767, -32768)), 0);
        int[] want = {0, 15, 1, -2, 32767, -32768, -1};
        for (int what = 0; what < want.length; what++) {
            due.is("scraps(0, " + what + ")", x.scraps(0, what), want[what]);
        }
        due.is("scraps(0, 7)", x.scraps(0, 7), -40000);
        due.is("scraps(0, -1)", x.scraps(0, -1), -40000);
        due.is("scraps(1, 0)", x.scraps(1, 0), -40000);
        due.is("scraps(-1, 0)", x.scraps(-1, 0), -40000);
        for (int i = 1; i < 200; i++) {
            due.is("scrap " + i, x.scrap(0, 0, 0), i);
        }
        due.is("scrap 200", x.scrap(0, 0, 0), -1);
    }

    private static void fits() {
        FilesOpened x = new FilesOpened();
        x.sack(1);
        x.sack(1);
        x.scrap(0, 3, Due.edges(0, 9, -4, 0));
        x.scrap(1, 3, Due.edges(4, 0, 0, -9));
        x.scrap(0, 4, Due.edges(4, 0, 0, -9));
        x.scrap(0, 3, Due.edges(4, 9, 0, 9));
        x.scrap(0, 3, Due.edges(-32768, -32768, -32768, -32768));
        x.scrap(0, 3, Due.edges(0, 0, 0, 0));
        due.is("of another sack, right", x.fits(0, 1, 0), 1);
        due.is("of another sack, below", x.fits(0, 1, 1), 1);
        due.is("the other way round", x.fits(1, 0, 0), 0);
        due.is("above", x.fits(1, 0, 1), 0);
        due.is("another hand", x.fits(0, 2, 0), 0);
        due.is("another hand below", x.fits(0, 2, 1), 0);
        due.is("the same code", x.fits(0, 3, 0), 0);
        due.is("torn off", x.fits(4, 5, 0), 0);
        due.is("smooth", x.fits(5, 4, 0), 0);
        due.is("both one", x.fits(0, 0, 0), -1);
        due.is("how 2", x.fits(0, 1, 2), -1);
        due.is("how -1", x.fits(0, 1, -1), -1);
        due.is("no a", x.fits(6, 1, 0), -1);
        due.is("no b", x.fits(0, -1, 0), -1);
    }

    private static void laying() {
        FilesOpened x = new FilesOpened();
        x.sack(1);
        due.is("nothing laid", x.laid(0, -1), -1);
        due.is("nothing laid at 0", x.laid(0, 0), -1);
        due.is("no loose scraps", x.lay(0, 1, 1), -1);
        x.scrap(0, 1, Due.edges(0, 0, 0, -5));
        due.is("one", x.lay(0, 1, 1), 0);
        due.is("one way", x.laid(9, -1), 1);
        due.is("its scrap", x.laid(0, 0), 0);
        due.is("no second way", x.laid(1, 0), -1);
        due.is("take(1) of one way", x.take(1), -1);
        x.scrap(0, 1, Due.edges(0, 5, 0, 0));
        due.is("two in a row", x.lay(0, 2, 1), 1);
        due.is("two: ways", x.laid(0, -1), 1);
        due.is("two: first", x.laid(0, 0), 1);
        due.is("two: second", x.laid(0, 1), 0);
        due.is("two: k 2", x.laid(0, 2), -1);
        due.is("two: k -2", x.laid(0, -2), -1);
        due.is("two: way 1", x.laid(1, 0), -1);
        due.is("two: way -1", x.laid(-1, 0), -1);
        due.is("refused", x.lay(0, 3, 1), -1);
        due.is("still two", x.laid(0, 0), 1);
        due.is("two in a column", x.lay(0, 1, 2), 0);
        due.is("column: ways", x.laid(0, -1), 2);
        due.is("column: way 0", x.laid(0, 0), 0);
        due.is("column: way 1", x.laid(1, 0), 1);
        due.is("column: way 1 ends", x.laid(1, 1), 0);
    }

    private static void sackBySack() {
        FilesOpened x = new FilesOpened();
        x.sack(1);
        x.sack(1);
        x.scrap(1, 0, Due.edges(0, 0, 0, 0));
        x.scrap(0, 0, Due.edges(0, 0, 2, 0));
        x.scrap(1, 0, Due.edges(3, 0, 0, 0));
        x.scrap(0, 0, Due.edges(1, 0, 0, 0));
        x.scrap(1, 0, Due.edges(0, 0, -3, 0));
        x.scrap(0, 0, Due.edges(-2, 0, -1, 0));
        due.is("its sack", x.scraps(0, 0), 1);
        due.is("a column that fits", x.lay(0, 1, 3), 2);
        due.is("one way", x.laid(0, -1), 1);
        due.is("first", x.laid(0, 0), 1);
        due.is("second", x.laid(0, 1), 5);
        due.is("third", x.laid(0, 2), 3);
        due.is("the other sack", x.lay(1, 1, 3), 1);
        due.is("two ways", x.laid(0, -1), 2);
        due.is("way 0", x.laid(0, 0), 0);
        due.is("way 0 then", x.laid(0, 1), 4);
        due.is("way 1", x.laid(1, 0), 4);
        due.is("way 1 then", x.laid(1, 1), 2);
        due.is("way 1 last", x.laid(1, 2), 0);
        due.is("in a row nothing fits", x.lay(1, 3, 1), 0);
        due.is("all ways", x.laid(0, -1), 6);
    }

    private static void shapes() {
        FilesOpened x = new FilesOpened();
        x.sack(1);
        for (int i = 0; i < 4; i++) {
            x.scrap(0, 0, 0);
        }
        due.is("lay(1, 4, 1)", x.lay(1, 4, 1), -1);
        due.is("lay(-1, 4, 1)", x.lay(-1, 4, 1), -1);
        due.is("lay(0, -2, -2)", x.lay(0, -2, -2), -1);
        due.is("lay(0, 0, 4)", x.lay(0, 0, 4), -1);
        due.is("lay round 32 bits", x.lay(0, 1 << 30, 4), -1);
        due.is("lay(0, 1073741825, 4)", x.lay(0, 1073741825, 4), -1);
        due.is("lay(0, 2, 2)", x.lay(0, 2, 2), 0);
        due.is("ways of 4", x.laid(0, -1), 24);
        due.is("lay(0, 1, 4)", x.lay(0, 1, 4), 0);
        due.is("way 1 of 4", x.laid(1, 2), 3);
        for (int i = 0; i < 4; i++) {
            x.scrap(0, 0, 0);
        }
        due.is("lay(0, 4, 2)", x.lay(0, 4, 2), 0);
        due.is("ways of 8", x.laid(0, -1), 40320);
        x.scrap(0, 0, 0);
        due.is("nine", x.lay(0, 9, 1), -1);
        due.is("nine in threes", x.lay(0, 3, 3), -1);
        due.is("ways of 8 still", x.laid(0, -1), 40320);
    }

    private static void judging() {
        FilesOpened x = new FilesOpened();
        x.sack(1);
        x.scrap(0, 1, Due.edges(0, 5, 6, 0));
        x.scrap(0, 1, Due.edges(0, 0, 7, -5));
        x.scrap(0, 1, Due.edges(-6, 8, 0, 0));
        x.scrap(0, 1, Due.edges(-7, 0, 0, -8));
        due.is("square", x.judged(2, 2, Due.packed(8, 0, 1, 2, 3)), 4);
        due.is("square, upper bits", x.judged(2, 2, Due.packed(8, 0, 1, 2, 3, 99)), 4);
        due.is("turned over", x.judged(2, 2, Due.packed(8, 3, 2, 1, 0)), 0);
        due.is("row", x.judged(4, 1, Due.packed(8, 0, 1, 2, 3)), 2);
        due.is("column", x.judged(1, 4, Due.packed(8, 0, 2, 1, 3)), 2);
        due.is("one", x.judged(1, 1, 3), 0);
        due.is("one twice", x.judged(2, 1, Due.packed(8, 3, 3)), -1);
        due.is("none such", x.judged(2, 1, Due.packed(8, 3, 4)), -1);
        due.is("nine", x.judged(3, 3, 0), -1);
        due.is("no shape", x.judged(0, 1, 0), -1);
        due.is("no shape below 0", x.judged(-1, -1, 0), -1);
        due.is("lay", x.lay(0, 2, 2), 4);
        x.take(0);
        due.is("not loose", x.judged(2, 2, Due.packed(8, 0, 1, 2, 3)), 4);
    }

    private static void eight() {
        FilesOpened x = new FilesOpened();
        x.sack(1);
        for (int i = 0; i < 8; i++) {
            x.scrap(0, 2, Due.edges(0, i < 7 ? i + 1 : 0, 0, -i));
        }
        due.is("a chain of 8", x.lay(0, 8, 1), 7);
        due.is("one way", x.laid(0, -1), 1);
        for (int k = 0; k < 8; k++) {
            due.is("chain at " + k, x.laid(0, k), k);
        }
        due.is("chain at 8", x.laid(0, 8), -1);
        due.is("chain in two rows", x.lay(0, 4, 2), 6);
        due.is("by scraps the first", x.laid(0, 0), 0);
    }
}
