/** Promises 27 to 29: premiums, bills and officers' accounts. */
public final class AccountsTest {
    public static void main(String[] args) {
        Due due = new Due();
        FilesOpened x = new FilesOpened();
        due.is("at first", x.premium(31, 999), 0);
        due.is("what it was", x.premium(31, 0), 999);
        due.is("act 0", x.premium(0, 0), 0);
        due.is("act -1", x.premium(-1, 0), -1);
        due.is("act 32", x.premium(32, 0), -1);
        due.is("coins -1", x.premium(31, -1), -1);
        due.is("coins 1000", x.premium(31, 1000), -1);
        due.is("unchanged", x.premium(31, 4), 0);

        x.person(-1);
        x.person(-1);
        x.cover(2);
        x.cover(2);
        x.cover(3);
        x.sheet();
        x.sheet();
        x.sheet();
        x.tear(2);
        due.is("no sheet", x.bill(3, 0, 1, 0), -1);
        due.is("torn sheet", x.bill(2, 0, 1, 0), -1);
        due.is("no cover", x.bill(0, 3, 1, 0), -1);
        due.is("coins 0", x.bill(0, 0, 0, 0), -1);
        due.is("coins 10000", x.bill(0, 0, 10000, 0), -1);
        due.is("day -1", x.bill(0, 0, 1, -1), -1);
        due.is("day 10000", x.bill(0, 0, 1, 10000), -1);
        due.is("bill", x.bill(0, 0, 9999, 9999), 0);
        due.is("another", x.bill(1, 1, 1, 0), 1);
        due.is("of officer 3", x.bill(0, 2, 30, 0), 2);

        due.is("closed", x.account(2, 0), 0);
        x.open(0);
        due.is("opened", x.account(2, 0), 9999);
        x.clock(1);
        x.open(1);
        due.is("both", x.account(2, 1), 10000);
        due.is("the day before", x.account(2, 0), 9999);
        x.premium(5, 100);
        x.report(0, 0, 0, 5, 7, 10, 10);
        due.is("less a premium", x.account(2, 1), 9900);
        due.is("not yet told", x.account(2, 0), 9999);
        x.report(0, 2, 0, 5, 7, 10, 11);
        due.is("copied by officer 3's cover", x.account(3, 1), 30);
        x.report(0, 1, 0, 6, 7, 10, 11);
        x.premium(6, 20);
        due.is("a premium told later counts", x.account(2, 1), 9880);
        x.clock(2);
        x.seen(1, 8, 10, 10);
        due.is("nobody could", x.account(2, 2), 10000);
        due.is("somebody could before", x.account(2, 1), 9880);
        x.unsee(0);
        x.fall(0);
        due.is("no longer copied", x.account(3, 2), -70);
        due.is("no officer", x.account(10, 0), -2000000000);
        due.is("officer -1", x.account(-1, 0), -2000000000);
        due.is("no day", x.account(0, 4000), -2000000000);
        due.is("day -1", x.account(0, -1), -2000000000);
        due.is("no covers", x.account(9, 0), 0);
        for (int i = 3; i < 200; i++) {
            due.is("bill " + i, x.bill(0, 0, 1, 0), i);
        }
        due.is("bill 200", x.bill(0, 0, 1, 0), -1);
        due.end();
    }
}
