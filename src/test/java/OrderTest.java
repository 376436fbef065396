/** Promises 50 to 52: askers and the order of sacks. */
public final class OrderTest {
    private static final Due due = new Due();

    public static void main(String[] args) {
        askers();
        ordering();
        refusing();
        withoutAskers();
        due.end();
    }

    private static void askers() {
        FilesOpened x = new FilesOpened();
        due.is("needs 0", x.asker(0, 1), -1);
        due.is("needs 512", x.asker(512, 1), -1);
        due.is("needs -1", x.asker(-1, 1), -1);
        due.is("weight 0", x.asker(1, 0), -1);
        due.is("weight 100", x.asker(1, 100), -1);
        for (int i = 1; i <= 12; i++) {
            due.is("asker " + i, x.asker(511, 99), i);
        }
        due.is("asker 13", x.asker(1, 1), -1);
    }

    private static void ordering() {
        FilesOpened x = new FilesOpened();
        x.sack(10);
        x.sack(1);
        x.sack(5);
        due.is("nothing ordered", x.ordered(0), -1);
        x.asker(1, 1);
        x.asker(2, 1);
        x.asker(4, 1);
        due.is("shortest first", x.order(3, Due.packed(5, 0, 1, 2)), 1 + 6 + 16);
        due.is("0th", x.ordered(0), 1);
        due.is("1st", x.ordered(1), 2);
        due.is("2nd", x.ordered(2), 0);
        due.is("3rd", x.ordered(3), -1);
        due.is("k -1", x.ordered(-1), -1);
        due.is("askers are gone", x.count(15), 0);
        x.asker(1, 99);
        due.is("bits of that list", x.order(2, Due.packed(5, 2, 1)), 495);
        due.is("sack 2 first", x.ordered(0), 2);
        due.is("then sack 1", x.ordered(1), 1);
        due.is("only two", x.ordered(2), -1);
        x.asker(3, 2);
        due.is("of several", x.order(3, Due.packed(5, 2, 1, 0)), 12);
        due.is("the first by numbers of sacks", x.ordered(0), 1);
        due.is("sack 2", x.ordered(1), 2);
        due.is("sack 0", x.ordered(2), 0);
        for (int i = 0; i < 6; i++) {
            x.sack(999);
        }
        x.asker(511, 99);
        due.is("nine", x.order(9, Due.packed(5, 8, 7, 6, 5, 4, 3, 2, 1, 0)), 99L * (6 * 999 + 16));
        for (int k = 0; k < 9; k++) {
            due.is("all orders are alike, " + k, x.ordered(k), k);
        }
        x.asker(1, 1);
        due.is("upper bits", x.order(1, 1 | 7L << 40), 1);
    }

    private static void refusing() {
        FilesOpened x = new FilesOpened();
        x.sack(3);
        x.sack(4);
        x.asker(1, 1);
        due.is("n 0", x.order(0, 0), -1);
        due.is("n -1", x.order(-1, 0), -1);
        due.is("n 10", x.order(10, 0), -1);
        due.is("no such sack", x.order(2, Due.packed(5, 1, 2)), -1);
        due.is("one twice", x.order(2, Due.packed(5, 1, 1)), -1);
        due.is("nothing ordered", x.ordered(0), -1);
        due.is("ordered", x.order(1, 1), 4);
        x.asker(2, 1);
        due.is("needs one that is not of them", x.order(1, 0), -1);
        due.is("the asker stays", x.count(15), 1);
        due.is("the order stays", x.ordered(0), 1);
        due.is("now", x.order(2, Due.packed(5, 1, 0)), 3);
    }

    /** The cost over nobody is 0, and all orders are alike; only what the call names can be refused. */
    private static void withoutAskers() {
        FilesOpened x = new FilesOpened();
        due.is("no sacks", x.order(1, 0), -1);
        x.sack(9);
        x.sack(4);
        x.sack(1);
        due.is("n 0", x.order(0, 0), -1);
        due.is("n 10", x.order(10, 0), -1);
        due.is("no such sack", x.order(2, Due.packed(5, 1, 3)), -1);
        due.is("one twice", x.order(2, Due.packed(5, 2, 2)), -1);
        due.is("nothing ordered", x.ordered(0), -1);
        due.is("one sack", x.order(1, 2), 0);
        due.is("that sack", x.ordered(0), 2);
        due.is("only one", x.ordered(1), -1);
        due.is("three sacks", x.order(3, Due.packed(5, 2, 0, 1)), 0);
        for (int k = 0; k < 3; k++) {
            due.is("by numbers, " + k, x.ordered(k), k);
        }
        x.asker(1, 2);
        due.is("an asker", x.order(2, Due.packed(5, 1, 0)), 8);
        due.is("the askers are gone", x.order(2, Due.packed(5, 1, 0)), 0);
        due.is("by numbers again", x.ordered(0), 0);
        due.is("then sack 1", x.ordered(1), 1);
        due.is("no asker came", x.count(15), 0);
    }
}
