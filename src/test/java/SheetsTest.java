/** Promises 10 to 14: sheets taken, told whole, torn, opened, and what is told of them. */
public final class SheetsTest {
    private static final Due due = new Due();

    public static void main(String[] args) {
        taking();
        tearing();
        opening();
        telling();
        many();
        due.end();
    }

    private static void taking() {
        FilesOpened x = new FilesOpened();
        due.is("nothing laid", x.take(0), -1);
        x.sack(1);
        x.scrap(0, 1, 0);
        x.scrap(0, 1, 0);
        x.scrap(0, 1, 0);
        x.lay(0, 3, 1);
        due.is("take(-1)", x.take(-1), -1);
        due.is("take(2)", x.take(2), -1);
        due.is("take(1)", x.take(1), 0);
        due.is("of that sheet", x.scraps(2, 6), 0);
        due.is("no more loose", x.take(0), -1);
        due.is("loose", x.count(3), 0);
        due.is("sheets", x.count(4), 1);
        due.is("tear(0)", x.tear(0), 3);
        due.is("taken again", x.take(0), 1);
        due.is("of the new sheet", x.scraps(0, 6), 1);
        x.tear(1);
        x.scrap(0, 1, 0);
        due.is("the laying stays", x.take(0), 2);
        due.is("the new scrap is loose", x.scraps(3, 6), -1);
        x.lay(0, 1, 1);
        due.is("the rest", x.take(0), 3);
        due.is("scraps of the rest", x.sheets(3, 3), 1);
    }

    private static void tearing() {
        FilesOpened x = new FilesOpened();
        x.person(-1);
        x.cover(0);
        x.sheet();
        x.sheet();
        x.open(0);
        x.open(1);
        x.report(0, 0, 0, 0, 0, 0, 0);
        x.report(1, 0, 0, 0, 0, 0, 0);
        x.bill(0, 0, 5, 0);
        x.bill(1, 0, 7, 0);
        x.clock(4);
        due.is("tear(2)", x.tear(2), -1);
        due.is("tear(-1)", x.tear(-1), -1);
        due.is("tear(0)", x.tear(0), 0);
        due.is("torn already", x.tear(0), -1);
        due.is("torn on", x.sheets(0, 2), 4);
        due.is("its report fell", x.known(0, 4), 0);
        due.is("known before", x.known(0, 3), 1);
        due.is("the other's did not", x.known(1, 4), 1);
        due.is("its bill fell", x.account(0, 4), 7);
        due.is("its bill before", x.account(0, 3), 12);
        due.no("fallen with its sheet", x.fall(0));
        due.is("a report of it", x.report(0, 0, 0, 0, 0, 0, 0), -1);
        due.is("a bill of it", x.bill(0, 0, 1, 0), -1);
        due.is("a line of it", x.line(0, 0, 1, 1), -1);
        due.is("reports ever", x.sheets(0, 5), 1);
        due.is("bills ever", x.sheets(0, 6), 1);
        x.clock(9);
        x.sheet();
        x.tear(2);
        due.no("torn is not opened", x.open(2));
        x.clock(10);
        due.is("fell once", x.sheets(2, 2), 9);
    }

    private static void opening() {
        FilesOpened x = new FilesOpened();
        x.sheet();
        due.no("open(-1)", x.open(-1));
        due.no("open(1)", x.open(1));
        due.is("closed", x.sheets(0, 1), -1);
        x.clock(5);
        due.yes("open(0)", x.open(0));
        x.clock(6);
        due.no("open already", x.open(0));
        due.is("open from", x.sheets(0, 1), 5);
        x.tear(0);
        due.is("open from, though torn", x.sheets(0, 1), 5);
    }

    private static void telling() {
        FilesOpened x = new FilesOpened();
        x.person(-1);
        x.cover(0);
        x.sack(1);
        x.scrap(0, 0, 0);
        x.scrap(0, 0, 0);
        x.clock(3);
        x.lay(0, 1, 2);
        x.take(0);
        x.line(0, 1, 1, 1);
        x.report(0, 0, 0, 0, 0, 0, 0);
        x.report(0, 0, 0, 0, 0, 0, 0);
        x.report(0, 0, 0, 0, 0, 0, 0);
        x.bill(0, 0, 1, 0);
        x.bill(0, 0, 1, 0);
        x.bill(0, 0, 1, 0);
        x.bill(0, 0, 1, 0);
        x.fall(0);
        int[] want = {3, -1, -1, 2, 1, 3, 4};
        for (int what = 0; what < want.length; what++) {
            due.is("sheets(0, " + what + ")", x.sheets(0, what), want[what]);
        }
        x.tear(0);
        due.is("scraps it was made of", x.sheets(0, 3), 2);
        due.is("sheets(0, 7)", x.sheets(0, 7), -1);
        due.is("sheets(0, -1)", x.sheets(0, -1), -1);
        due.is("sheets(1, 0)", x.sheets(1, 0), -1);
        due.is("sheets(-1, 0)", x.sheets(-1, 0), -1);
    }

    private static void many() {
        FilesOpened x = new FilesOpened();
        x.sack(1);
        x.scrap(0, 0, 0);
        x.lay(0, 1, 1);
        for (int i = 0; i < 200; i++) {
            due.is("sheet " + i, x.sheet(), i);
        }
        due.is("sheet 200", x.sheet(), -1);
        due.is("take 200", x.take(0), -1);
        due.is("still loose", x.scraps(0, 6), -1);
    }
}
