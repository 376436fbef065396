/** Promises 50 to 53, a sentence of the document at a time: its edges and its ties. */
public final class EdgesOrderTest {
    private static final int NONE = FilesOpened.NONE;
    private static final Due due = new Due();

    private EdgesOrderTest() {
    }

    public static void main(String[] args) {
        needsAndWeights();
        oneToNine();
        unlikeOnes();
        needsOfTheList();
        lastOfHisSacks();
        firstByNumbers();
        goneThen();
        latestOrder();
        withoutAskers();
        allOrders();
        countsOfWhat();
        due.end();
    }

    private static FilesOpened sacks(int... hours) {
        FilesOpened x = new FilesOpened();
        for (int i = 0; i < hours.length; i++) {
            due.is("sack of " + hours[i], x.sack(hours[i]), i);
        }
        return x;
    }

    private static long list(int... sacks) {
        return Due.packed(5, sacks);
    }

    /** 50: needs 1 to 511, a weight (1 to 99): how many there are. */
    private static void needsAndWeights() {
        FilesOpened x = new FilesOpened();
        due.is("needs 0", x.asker(0, 1), NONE);
        due.is("needs 512", x.asker(512, 1), NONE);
        due.is("weight 0", x.asker(1, 0), NONE);
        due.is("weight 100", x.asker(1, 100), NONE);
        due.is("none of them came", x.count(15), 0);
        due.is("needs 1, without a sack", x.asker(1, 1), 1);
        due.is("needs 511", x.asker(511, 99), 2);
        due.is("askers", x.count(15), 2);
    }

    /** 51: n SACKS (1 to 9, five bits each, the first one lowest). */
    private static void oneToNine() {
        int[] hours = new int[20];
        java.util.Arrays.fill(hours, 2);
        for (int n = 0; n <= 10; n++) {
            FilesOpened x = sacks(hours);
            x.asker(1, 1);
            boolean told = n >= 1 && n <= 9;
            due.is("order of " + n, x.order(n, list(19, 17, 15, 13, 11, 9, 7, 5, 3, 1)), told ? 2 : NONE);
            due.is("askers left", x.count(15), told ? 0 : 1);
            due.is("the first", x.ordered(0), told ? 19 : NONE);
            due.is("the last", x.ordered(n - 1), told ? n == 1 ? 19 : 17 : NONE);
            due.is("behind the last", x.ordered(n), NONE);
        }
        FilesOpened x = sacks(hours);
        due.is("n of the int's ends", x.order(Integer.MIN_VALUE, 0) + x.order(Integer.MAX_VALUE, 0), 2 * NONE);
        due.is("bits behind those that are told", x.order(2, list(4, 3) | -1L << 10), 0);
        due.is("sack 3 of the list", x.ordered(0), 3);
    }

    /** 51: unlike ones, that are there. */
    private static void unlikeOnes() {
        FilesOpened x = sacks(1, 1, 1, 1, 1, 1, 1, 1, 1, 1);
        due.is("the first twice", x.order(2, list(3, 3)), NONE);
        due.is("the first and the last", x.order(9, list(0, 1, 2, 3, 4, 5, 6, 7, 0)), NONE);
        due.is("sack 10 of ten", x.order(1, list(10)), NONE);
        due.is("sack 31", x.order(1, list(31)), NONE);
        due.is("the last is none", x.order(9, list(0, 1, 2, 3, 4, 5, 6, 7, 10)), NONE);
        due.is("nothing ordered", x.ordered(0), NONE);
        due.is("nine unlike ones", x.order(9, list(9, 8, 7, 6, 5, 4, 3, 2, 1)), 0);
        due.is("ordered", x.ordered(0), 1);
    }

    /** 51: NONE, and nothing happens, if an ASKER needs one that is not of them. */
    private static void needsOfTheList() {
        for (int n = 1; n <= 9; n++) {
            FilesOpened x = sacks(1, 1, 1, 1, 1, 1, 1, 1, 1);
            x.asker(1, 1);
            x.asker(1 << n - 1, 1);
            if (n > 1) {
                due.is("one fewer than needed", x.order(n - 1, list(0, 1, 2, 3, 4, 5, 6, 7, 8)), NONE);
                due.is("they wait", x.count(15), 2);
                due.is("nothing ordered", x.ordered(0), NONE);
            }
            due.is("just as many", x.order(n, list(0, 1, 2, 3, 4, 5, 6, 7, 8)), n == 1 ? 2 : 3);
            due.is("they are gone", x.count(15), 0);
            x.asker(1 << n - 1, 1);
            x.asker(1, 1);
            if (n > 1) {
                due.is("one fewer than the first needs", x.order(n - 1, list(8, 7, 6, 5, 4, 3, 2, 1, 0)), NONE);
                due.is("both wait", x.count(15), 2);
                due.is("the order stays", x.ordered(0), 0);
                due.is("its length stays", x.ordered(n), NONE);
            }
        }
    }

    /** Weight times the HOURS at which the last of his SACKS is done; needs as bits of that list. */
    private static void lastOfHisSacks() {
        FilesOpened x = sacks(10, 20, 30);
        x.asker(5, 3);
        due.is("the last of 0 and 2, ahead of 1", x.order(3, list(0, 1, 2)), 120);
        due.is("0 first", x.ordered(0), 0);
        due.is("then 2", x.ordered(1), 2);
        due.is("1 last", x.ordered(2), 1);
        x.asker(5, 3);
        due.is("bits of the list", x.order(3, list(1, 0, 2)), 150);
        due.is("sack 1 first", x.ordered(0), 1);
        x.asker(4, 1);
        x.asker(2, 99);
        due.is("the heavier first", x.order(3, list(0, 1, 2)), 99 * 20 + 50);
        due.is("1 first of all", x.ordered(0), 1);
        due.is("2 then", x.ordered(1), 2);
        x.asker(1, 99);
        x.asker(1, 99);
        x.asker(2, 99);
        due.is("two of 20 hours as good as one of 10", x.order(2, list(1, 0)), 2 * 99 * 20 + 99 * 30);
        due.is("sack 0 by numbers", x.ordered(0), 0);
    }

    /** Of several the first by numbers of SACKS, whatever their places in the list. */
    private static void firstByNumbers() {
        FilesOpened x = sacks(5, 5, 5, 5, 7);
        x.asker(1, 1);
        x.asker(2, 1);
        due.is("alike", x.order(2, list(3, 1)), 15);
        due.is("1 ahead of 3", x.ordered(0), 1);
        due.is("3", x.ordered(1), 3);
        x.asker(7, 2);
        due.is("all three", x.order(3, list(2, 0, 1)), 30);
        for (int k = 0; k < 3; k++) {
            due.is("by numbers " + k, x.ordered(k), k);
        }
        x.asker(1, 1);
        due.is("those that nobody needs", x.order(4, list(3, 4, 2, 0)), 5);
        int[] want = {3, 0, 2, 4};
        for (int k = 0; k < 4; k++) {
            due.is("3 and then by numbers, " + k, x.ordered(k), want[k]);
        }
        FilesOpened y = sacks(2, 1, 4);
        y.asker(1, 2);
        y.asker(2, 1);
        due.is("2 of weight 2 as good as 1 of weight 1", y.order(2, list(0, 1)), 7);
        due.is("0 first", y.ordered(0), 0);
        y.asker(2, 2);
        y.asker(1, 4);
        due.is("again, the other way round", y.order(2, list(2, 0)), 4 + 24);
        due.is("0 first again", y.ordered(0), 0);
    }

    private static void goneThen() {
        FilesOpened x = sacks(3, 4);
        for (int i = 1; i <= 12; i++) {
            due.is("asker " + i, x.asker(3, 1), i);
        }
        due.is("refused", x.order(1, 0), NONE);
        due.is("no thirteenth", x.asker(1, 1), NONE);
        due.is("order", x.order(2, list(0, 1)), 84);
        due.is("gone", x.count(15), 0);
        due.is("a first one again", x.asker(2, 1), 1);
        due.is("he alone", x.order(2, list(0, 1)), 4);
    }

    /** 52: the k-th SACK of the latest order() that was not NONE. */
    private static void latestOrder() {
        FilesOpened x = sacks(1, 1, 1);
        for (int k = -1; k <= 9; k++) {
            due.is("none yet, " + k, x.ordered(k), NONE);
        }
        x.order(3, list(2, 1, 0));
        x.order(1, list(2));
        due.is("a shorter one", x.ordered(0), 2);
        due.is("nothing is left of the longer", x.ordered(1), NONE);
        x.order(2, list(1, 1));
        x.order(4, list(0, 1, 2, 3));
        due.is("refused ones", x.ordered(0), 2);
        due.is("k -1", x.ordered(NONE), NONE);
        due.is("the int's least", x.ordered(Integer.MIN_VALUE), NONE);
        due.is("the int's greatest", x.ordered(Integer.MAX_VALUE), NONE);
    }

    private static void withoutAskers() {
        FilesOpened x = sacks(9, 1);
        due.is("nobody asks", x.order(2, list(1, 0)), 0);
        due.is("by numbers", x.ordered(0), 0);
        due.is("refused all the same", x.order(2, list(1, 2)), NONE);
    }

    /** The least over all orders, tried one by one. */
    private static void allOrders() {
        int[] hours = {7, 3, 9, 1, 5, 2};
        int[] needs = {5, 18, 9, 40, 3};
        int[] weights = {4, 9, 2, 7, 3};
        FilesOpened x = sacks(hours);
        for (int i = 0; i < needs.length; i++) {
            x.asker(needs[i], weights[i]);
        }
        int[] best = new int[7];
        best[6] = Integer.MAX_VALUE;
        tryAll(new int[6], 0, 0, best, hours, needs, weights);
        due.is("least cost", x.order(6, list(0, 1, 2, 3, 4, 5)), best[6]);
        for (int k = 0; k < 6; k++) {
            due.is("the first of the best, " + k, x.ordered(k), best[k]);
        }
    }

    private static void tryAll(int[] order, int k, int used, int[] best, int[] hours, int[] needs, int[] weights) {
        if (k == 6) {
            int cost = cost(order, hours, needs, weights);
            if (cost < best[6]) {
                System.arraycopy(order, 0, best, 0, 6);
                best[6] = cost;
            }
            return;
        }
        for (int i = 0; i < 6; i++) {
            if ((used >> i & 1) == 0) {
                order[k] = i;
                tryAll(order, k + 1, used | 1 << i, best, hours, needs, weights);
            }
        }
    }

    private static int cost(int[] order, int[] hours, int[] needs, int[] weights) {
        int cost = 0;
        for (int asker = 0; asker < needs.length; asker++) {
            int now = 0;
            int last = 0;
            for (int sack : order) {
                now += hours[sack];
                last = (needs[asker] >> sack & 1) != 0 ? now : last;
            }
            cost += weights[asker] * last;
        }
        return cost;
    }

    /** 53: all that ever came, fallen and torn ones too; loose ones, those who wait, the TAPE and ASKERS as they are. */
    private static void countsOfWhat() {
        FilesOpened x = sacks(1, 1);
        x.person(NONE);
        x.cover(0);
        x.scrap(0, 0, 0);
        x.scrap(1, 0, 0);
        x.lay(0, 1, 1);
        x.take(0);
        x.seen(0, 0, 0, 0);
        x.report(0, 0, 0, 0, 0, 0, 0);
        x.bill(0, 0, 1, 0);
        x.reader(NONE, false);
        x.ask(0, 0);
        x.finding(0, 0);
        x.asker(1, 1);
        x.feed(0, 0, 0, 0, 0);
        x.clock(3999);
        int[] before = {3999, 2, 2, 1, 1, 1, 1, 1, 1, 1, 0, 1, 1, 1, 20, 1};
        for (int what = 0; what <= 15; what++) {
            due.is("count(" + what + ")", x.count(what), before[what]);
        }
        x.unsee(0);
        x.tear(0);
        x.appeal(0, true);
        x.order(1, 0);
        x.law(3999);
        int[] after = {3999, 2, 2, 2, 1, 1, 1, 1, 1, 1, 0, 1, 1, 1, 0, 0};
        for (int what = 0; what <= 15; what++) {
            due.is("later count(" + what + ")", x.count(what), after[what]);
        }
        int[] none = {-1, 16, Integer.MIN_VALUE, Integer.MAX_VALUE};
        for (int what : none) {
            due.is("count(" + what + ")", x.count(what), NONE);
        }
    }
}
