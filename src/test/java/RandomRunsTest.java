import java.util.Random;

/** Runs of at most 512 calls, told by numbered seeds, on the class and on the model: each answer must be the same. */
public final class RandomRunsTest {
    private static final int RUNS = 1000;
    /** A run ends so far ahead of its 512th call that the dearest step still goes into it. */
    private static final int CALLS = 512 - 60;
    private static final int[] STRANGE = {Integer.MIN_VALUE, Integer.MAX_VALUE, -2, -1, 1 << 16, 10000, 4000, 400, 64};

    private final Random random;
    private final FilesOpened x = new FilesOpened();
    private final Model m = new Model();
    private final Due due;
    private final String run;
    /** How many ways an old day, a place or a code can go: few, so that papers meet. */
    private final int few;
    private int calls;

    private RandomRunsTest(long seed, Due due) {
        random = new Random(seed);
        run = "run " + seed + ": ";
        few = 1 + random.nextInt(5);
        this.due = due;
    }

    public static void main(String[] args) {
        Due due = new Due();
        long first = args.length > 0 ? Long.parseLong(args[0]) : 1;
        int runs = args.length > 1 ? Integer.parseInt(args[1]) : RUNS;
        for (long seed = first; seed < first + runs; seed++) {
            new RandomRunsTest(seed, due).go((int) (seed % 6));
        }
        due.end();
    }

    /** Every other run starts with some of everything, so that calls meet what they ask for. */
    private void setUp() {
        for (int i = 0; i <= few; i++) {
            is("person", x.person(i - 1), m.person(i - 1));
            is("cover", x.cover(i % 3), m.cover(i % 3));
            is("sheet", x.sheet(), m.sheet());
            is("open", x.open(i / 2), m.open(i / 2));
            is("reader", x.reader(i - 1, i == 2), m.reader(i - 1, i == 2));
            is("line", x.line(i, 1L << i, 5, 50 + i), m.line(i, 1L << i, 5, 50 + i));
            is("sack", x.sack(1 + i % 3), m.sack(1 + i % 3));
            is("premium", x.premium(i, 100 + i), m.premium(i, 100 + i));
        }
    }

    /** Whether a further one may come: beyond some few it mostly may not. */
    private boolean further(int many) {
        return many < few + 2 || random.nextInt(few < 4 ? 40 : 3) == 0;
    }

    private void go(int theme) {
        if (theme != 2 && few != 2) {
            setUp();
        }
        while (calls < CALLS) {
            int kind = random.nextInt(10) < 7 ? theme : random.nextInt(6);
            switch (kind) {
                case 0 -> scrapCall();
                case 1 -> paperCall();
                case 2 -> lawCall();
                case 3 -> readerCall();
                case 4 -> findingCall();
                default -> mixedCall();
            }
        }
    }

    /** Mostly 0 to most - 1, now and then just outside or far off. */
    private int any(int most) {
        int dice = random.nextInt(40);
        if (dice == 0) {
            return STRANGE[random.nextInt(STRANGE.length)];
        }
        if (dice == 1) {
            return random.nextBoolean() ? -1 : most;
        }
        return most <= 0 ? 0 : random.nextInt(most);
    }

    private int day() {
        return any(m.now + 3);
    }

    private void is(String call, long got, long want) {
        calls++;
        due.is(run + call, got, want);
    }

    private void is(String call, boolean got, boolean want) {
        is(call, got ? 1 : 0, want ? 1 : 0);
    }

    private void scrapCall() {
        int a = any(20);
        int b = any(20);
        int sack = any(m.sacks.size());
        switch (random.nextInt(16)) {
            case 0 -> {
                int hours = random.nextInt(4) == 0 ? any(1001) : 1 + random.nextInt(5);
                is("sack", x.sack(hours), m.sack(hours));
            }
            case 1, 2, 3, 4 -> newScrap(sack);
            case 5 -> allOfScrap(any(m.scraps.size()));
            case 6 -> {
                int c = any(m.scraps.size());
                int d = any(m.scraps.size());
                int how = any(2);
                is("fits", x.fits(c, d, how), m.fits(c, d, how));
            }
            case 7, 8 -> layCall(sack);
            case 9 -> is("laid", x.laid(a % 3, b % 9), m.laid(a % 3, b % 9));
            case 10 -> judgeCall();
            case 11 -> is("take", x.take(a % 3), m.take(a % 3));
            case 12 -> {
                int sheet = any(m.sheets.size());
                is("tear", x.tear(sheet), m.tear(sheet));
            }
            case 13 -> {
                int needs = random.nextInt(12) == 0 ? any(513) : 1 + random.nextInt(7);
                int weight = random.nextInt(3) == 0 ? any(101) : 1 + random.nextInt(3);
                is("asker", x.asker(needs, weight), m.asker(needs, weight));
            }
            case 14 -> orderCall();
            default -> is("ordered", x.ordered(a), m.ordered(a));
        }
    }

    private void allOfScrap(int k) {
        for (int what = -1; what <= 7; what++) {
            is("scraps(" + k + ", " + what + ")", x.scraps(k, what), m.scraps(k, what));
        }
    }

    private void newScrap(int sack) {
        int[] codes = new int[4];
        for (int i = 0; i < 4; i++) {
            codes[i] = random.nextInt(12) == 0 ? -32768 : random.nextInt(2 * few + 1) - few;
        }
        long edges = random.nextInt(30) == 0 ? random.nextLong() : Due.edges(codes[0], codes[1], codes[2], codes[3]);
        int hand = random.nextInt(5) == 0 ? any(16) : 1;
        is("scrap", x.scrap(sack, hand, edges), m.scrap(sack, hand, edges));
    }

    private void layCall(int sack) {
        int loose = 0;
        for (Model.Scrap scrap : m.scraps) {
            loose += scrap.sack == sack && scrap.sheet == -1 ? 1 : 0;
        }
        int columns = 1 + random.nextInt(Math.max(1, loose));
        int rows = loose / columns;
        if (random.nextInt(20) == 0) {
            columns = any(9);
            rows = any(9);
        }
        if (loose == 8 && random.nextInt(8) != 0) {
            return;
        }
        is("lay(" + sack + ", " + columns + ", " + rows + ")", x.lay(sack, columns, rows), m.lay(sack, columns, rows));
        for (int k = -1; k <= loose; k++) {
            is("laid(0, " + k + ")", x.laid(0, k), m.laid(0, k));
            is("laid(1, " + k + ")", x.laid(1, k), m.laid(1, k));
        }
    }

    private void judgeCall() {
        int columns = 1 + any(4);
        int rows = 1 + any(4);
        long row = 0;
        for (int i = 0; i < 8; i++) {
            row = row << 8 | any(m.scraps.size()) & 255;
        }
        is("judged", x.judged(columns, rows, row), m.judged(columns, rows, row));
    }

    private void orderCall() {
        int n = random.nextInt(10) == 0 ? any(10) : 3 + random.nextInt(4);
        if (n == 9 && random.nextInt(10) != 0) {
            n = 5;
        }
        long list = 0;
        boolean rising = random.nextBoolean();
        for (int i = 0; i < 9; i++) {
            int sack = rising ? 8 - i : 2 * (8 - i) % 9;
            list = list << 5 | (random.nextInt(60) == 0 ? any(20) : sack) & 31;
        }
        is("order(" + n + ", " + list + ")", x.order(n, list), m.order(n, list));
        for (int k = 0; k < 9; k++) {
            is("ordered(" + k + ")", x.ordered(k), m.ordered(k));
        }
    }

    private void paperCall() {
        int sheet = any(m.sheets.size());
        int cover = any(m.covers.size());
        int person = any(m.persons.size());
        int report = any(m.reports.size());
        int day = day();
        switch (random.nextInt(18)) {
            case 0 -> {
                if (further(m.persons.size())) {
                    is("person", x.person(sheet), m.person(sheet));
                }
            }
            case 1, 2, 3 -> {
                int place = any(few + 1);
                int from = any(few + 1);
                int to = random.nextInt(20) == 0 ? any(10001) : from + random.nextInt(2);
                is("seen", x.seen(person, place, from, to), m.seen(person, place, from, to));
            }
            case 4 -> {
                int seen = any(m.seens.size());
                is("unsee", x.unsee(seen), m.unsee(seen));
            }
            case 5 -> {
                if (further(m.covers.size())) {
                    is("cover", x.cover(sheet), m.cover(sheet));
                }
            }
            case 6, 7, 8 -> {
                int act = any(few);
                int place = any(few + 1);
                int deed = any(few + 1);
                int written = random.nextInt(20) == 0 ? any(10001) : deed + random.nextInt(3);
                is("report", x.report(sheet, cover, person, act, place, deed, written),
                    m.report(sheet, cover, person, act, place, deed, written));
            }
            case 9 -> is("fall", x.fall(report), m.fall(report));
            case 10 -> is("known", x.known(report, day), m.known(report, day));
            case 11 -> is("out", x.out(cover, person, day), m.out(cover, person, day));
            case 12 -> {
                int k = any(m.persons.size()) - 1;
                is("candidate", x.candidate(cover, day, k), m.candidate(cover, day, k));
            }
            case 13 -> is("sure", x.sure(cover, day), m.sure(cover, day));
            case 14 -> is("next", x.next(cover), m.next(cover));
            case 15 -> {
                int what = any(2);
                is("made", x.made(report, day, what), m.made(report, day, what));
            }
            case 16 -> is("open", x.open(sheet), m.open(sheet));
            default -> {
                if (further(m.sheets.size())) {
                    is("sheet", x.sheet(), m.sheet());
                }
            }
        }
    }

    private void lawCall() {
        int day = day();
        switch (random.nextInt(8)) {
            case 0, 1, 2 -> {
                String text = new RandomText(random).law();
                int from = m.now + (random.nextInt(4) == 0 ? random.nextInt(9) : 0);
                feedBoth(text);
                is("law of " + text, x.law(from), m.law(from));
            }
            case 3 -> is("feed", x.feed(day, 0, 1, 2, 3), m.feed(day, 0, 1, 2, 3));
            case 4 -> {
                int n = any(m.tape.length() + 1);
                is("end", x.end(n), m.end(n));
            }
            case 5 -> is("law", x.law(day), m.law(day));
            case 6 -> is("force", x.force(day), m.force(day));
            default -> {
                int cover = any(m.covers.size());
                is("need", x.need(cover, day), m.need(cover, day));
            }
        }
    }

    private void feedBoth(String text) {
        x.end(0);
        m.end(0);
        Due.write(x, text);
        calls += 3 + (text.length() + 19) / 20;
        for (int i = 0; i < text.length(); i++) {
            m.tape += text.charAt(i);
        }
    }

    private void readerCall() {
        int reader = any(m.readers.size());
        int sheet = any(m.sheets.size());
        int line = any(4);
        switch (random.nextInt(18)) {
            case 0 -> {
                int person = any(m.persons.size() + 1) - 1;
                boolean press = random.nextBoolean();
                if (further(m.readers.size())) {
                    is("reader", x.reader(person, press), m.reader(person, press));
                }
            }
            case 1, 2 -> {
                long named = random.nextInt(20) == 0 ? random.nextLong()
                    : random.nextLong() & (1L << m.persons.size()) - 1 & random.nextLong();
                int length = random.nextInt(20) == 0 ? any(202) : 1 + random.nextInt(200);
                int word = random.nextInt(20) == 0 ? any(1000001) : random.nextInt(1000000);
                is("line", x.line(sheet, named, length, word), m.line(sheet, named, length, word));
            }
            case 3, 4 -> is("may", x.may(reader, sheet, line), m.may(reader, sheet, line));
            case 5 -> is("why", x.why(), m.why);
            case 6, 7, 8 -> is("ask", x.ask(reader, sheet), m.ask(reader, sheet));
            case 9 -> is("turn", x.turn(reader), m.turn(reader));
            case 10, 11, 12 -> is("call", x.call(), m.call());
            case 13, 14 -> is("told", x.told(reader, sheet, line), m.told(reader, sheet, line));
            case 15 -> {
                int cover = any(m.covers.size());
                int further = random.nextBoolean() ? -1 : sheet;
                is("together", x.together(reader, cover, further), m.together(reader, cover, further));
            }
            case 16 -> is("open", x.open(sheet), m.open(sheet));
            default -> lawCall();
        }
    }

    private void findingCall() {
        int finding = any(m.findings.size());
        int person = any(m.persons.size());
        int cover = any(m.covers.size());
        int day = day();
        int what = any(3);
        switch (random.nextInt(14)) {
            case 0 -> is("finding", x.finding(person, cover), m.finding(person, cover));
            case 1, 2 -> is("stands", x.stands(finding, day), m.stands(finding, day));
            case 3 -> is("need", x.need(cover, day), m.need(cover, day));
            case 4 -> {
                boolean granted = random.nextBoolean();
                is("appeal", x.appeal(finding, granted), m.appeal(finding, granted));
            }
            case 5, 6 -> is("lose", x.lose(finding), m.lose(finding));
            case 7 -> is("back", x.back(), m.back());
            case 8 -> is("persons", x.persons(person, what), m.persons(person, what));
            case 9 -> {
                String law = "need " + random.nextInt(4) + " if day<" + (m.now + random.nextInt(3))
                    + ";need 1 if reports>=bills";
                feedBoth(law);
                is("law of need", x.law(m.now), m.law(m.now));
            }
            case 10 -> {
                int sheet = any(m.sheets.size());
                int coins = random.nextInt(20) == 0 ? any(10001) : 1 + random.nextInt(9999);
                int on = any(10000);
                is("bill", x.bill(sheet, cover, coins, on), m.bill(sheet, cover, coins, on));
            }
            default -> paperCall();
        }
    }

    private void mixedCall() {
        int what = any(16);
        int sheet = any(m.sheets.size());
        int officer = any(10);
        int day = day();
        switch (random.nextInt(10)) {
            case 0 -> {
                int on = random.nextInt(4) == 0 ? day : m.now + random.nextInt(3);
                is("clock", x.clock(on), m.clock(on));
            }
            case 1, 2 -> is("count(" + what + ")", x.count(what), m.count(what));
            case 3, 4 -> is("sheets", x.sheets(sheet, what % 8), m.sheets(sheet, what % 8));
            case 5 -> {
                int coins = random.nextInt(10) == 0 ? any(1001) : random.nextInt(1000);
                is("premium", x.premium(what, coins), m.premium(what, coins));
            }
            case 6, 7 -> is("account", x.account(officer, day), m.account(officer, day));
            case 8 -> {
                if (random.nextInt(6) == 0) {
                    is("tear", x.tear(sheet), m.tear(sheet));
                }
            }
            default -> is("persons", x.persons(sheet, what), m.persons(sheet, what));
        }
    }
}
