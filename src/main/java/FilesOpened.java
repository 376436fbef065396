import java.util.Arrays;

/** A house that opens a fallen watch's files; the document ../shared/DOC.md says what each call answers. */
public final class FilesOpened {
    public static final int NONE = -1;

    private static final int LAST_DAY = 3999;
    private static final int LAST_OLD_DAY = 9999;
    /** A day behind all days, so that "not yet" needs no test of its own where days are compared. */
    private static final int NEVER = 4000;

    private static final int MOST_SACKS = 20;
    private static final int MOST_HOURS = 999;
    private static final int MOST_SCRAPS = 200;
    private static final int LAST_HAND = 15;
    private static final int MOST_LAID = 8;
    private static final int MOST_SHEETS = 200;
    private static final int MOST_PERSONS = 60;
    private static final int LAST_RANK = 99;
    private static final int LAST_PLACE = 99;
    private static final int MOST_SEEN = 400;
    private static final int OFFICERS = 10;
    private static final int MOST_COVERS = 40;
    private static final int MOST_REPORTS = 200;
    private static final int ACTS = 32;
    private static final int MOST_PREMIUM = 999;
    private static final int MOST_BILLS = 200;
    private static final int MOST_COINS = 9999;
    private static final int MOST_LAWS = 20;
    private static final int MOST_BYTES = 400;
    private static final int MOST_CLAUSES = 12;
    private static final int MOST_VALUES = 80;
    private static final int MOST_DEEP = 10;
    private static final int MOST_DIGITS = 4;
    private static final int MOST_NEED = 99;
    private static final int MOST_LINES = 20;
    private static final int MOST_LENGTH = 200;
    private static final int MOST_WORD = 999999;
    private static final int MOST_READERS = 30;
    private static final int MOST_FINDINGS = 60;
    private static final int MOST_ASKERS = 12;
    private static final int MOST_ORDERED = 9;
    private static final int MOST_WEIGHT = 99;

    private static final int NO_SCRAP = -40000;
    private static final int NO_ACCOUNT = -2000000000;
    private static final int WITHOUT = -2;
    private static final long NO_TURN = -9223372036854775808L;

    private static final int UP = 0;
    private static final int RIGHT = 1;
    private static final int DOWN = 2;
    private static final int LEFT = 3;
    private static final int SMOOTH = 0;
    private static final int TORN_OFF = -32768;

    private static final int[] FACTORIALS = {1, 1, 2, 6, 24, 120, 720, 5040, 40320};

    private static final int LET = 0;
    private static final int BLACK = 1;
    private static final int BAR = 2;

    /** The words of the language, those with a value first; a word's number is its place here. */
    private static final String WORDS =
        "self third source age lines press waits asked reports bills day read need turn let black bar if or and not";
    private static final int SELF = 0;
    private static final int THIRD = 1;
    private static final int SOURCE = 2;
    private static final int AGE = 3;
    private static final int LINES = 4;
    private static final int PRESS = 5;
    private static final int WAITS = 6;
    private static final int ASKED = 7;
    private static final int REPORTS = 8;
    private static final int BILLS = 9;
    private static final int DAY = 10;
    private static final int VALUE_WORDS = 11;

    /** Tokens: a number of the text is its own token, all others lie above the greatest number. */
    private static final int TOO_LONG = 10000;
    private static final int UNKNOWN = 10001;
    private static final int END = 10002;
    private static final int FIRST_WORD = 10010;
    private static final int READ = FIRST_WORD + 11;
    private static final int NEED = FIRST_WORD + 12;
    private static final int TURN = FIRST_WORD + 13;
    private static final int VERBS = FIRST_WORD + 14;
    private static final int IF = FIRST_WORD + 17;
    private static final int OR = FIRST_WORD + 18;
    private static final int AND = FIRST_WORD + 19;
    private static final int NOT = FIRST_WORD + 20;
    private static final int SEMICOLON = 10040;
    private static final int OPENED = 10041;
    private static final int CLOSED = 10042;
    private static final int TEST_OPENED = 10043;
    private static final int TEST_CLOSED = 10044;
    private static final int PLUS = 10045;
    private static final int MINUS = 10046;
    private static final int TIMES = 10047;
    private static final int LESS = 10048;
    private static final int AT_MOST = 10049;
    private static final int EQUAL = 10050;
    private static final int AT_LEAST = 10051;
    private static final int MORE = 10052;

    private static final int FAULT_PLACE = 0;
    private static final int FAULT_NUMBER = 1;
    private static final int FAULT_DEEP = 2;
    private static final int FAULT_MANY = 3;
    private static final int FAULT_CLAUSE = 4;

    private int now;
    private int why;
    private int sheetCount;
    private int lawCount;
    private int readerCount;
    private final Scraps table;
    private final Laying laying;
    private final Sheet[] allSheets;
    private final Evidence evidence;
    private final Tape tape;
    private final LawReader lawReader;
    private final Law[] laws;
    private final Reader[] readers;
    private final Offices offices;
    private final SackOrder sackOrder;
    private final long[] words;

    public FilesOpened() {
        why = NONE;
        table = new Scraps();
        laying = new Laying(table);
        allSheets = new Sheet[MOST_SHEETS];
        evidence = new Evidence();
        tape = new Tape();
        lawReader = new LawReader(tape);
        laws = new Law[MOST_LAWS];
        readers = new Reader[MOST_READERS];
        offices = new Offices();
        sackOrder = new SackOrder(table);
        words = new long[VALUE_WORDS];
    }

    public boolean clock(int day) {
        if (!within(day, now, LAST_DAY)) {
            return false;
        }
        now = day;
        return true;
    }

    public int sack(int hours) {
        return table.addSack(hours);
    }

    public int scrap(int sack, int hand, long edges) {
        return table.addScrap(sack, hand, edges);
    }

    public int scraps(int k, int what) {
        if (!table.hasScrap(k)) {
            return NO_SCRAP;
        }
        switch (what) {
            case 0: return table.sackOf[k];
            case 1: return table.handOf[k];
            case 2: return table.edge(k, UP);
            case 3: return table.edge(k, RIGHT);
            case 4: return table.edge(k, DOWN);
            case 5: return table.edge(k, LEFT);
            case 6: return table.sheetOf[k];
            default: return NO_SCRAP;
        }
    }

    public int fits(int a, int b, int how) {
        if (!table.hasScrap(a) || !table.hasScrap(b) || a == b || !within(how, 0, 1)) {
            return NONE;
        }
        return (how == 0 ? table.joinsRight(a, b) : table.joinsBelow(a, b)) ? 1 : 0;
    }

    public int lay(int sack, int columns, int rows) {
        return laying.layBest(sack, columns, rows);
    }

    public int laid(int way, int k) {
        return k == NONE ? laying.waysFound() : laying.scrapAt(way, k);
    }

    public int judged(int columns, int rows, long scraps) {
        return laying.judge(columns, rows, scraps);
    }

    public int take(int way) {
        if (sheetCount >= MOST_SHEETS || !laying.canTake(way)) {
            return NONE;
        }
        int number = newSheet();
        allSheets[number].scraps = laying.takeFor(way, number);
        return number;
    }

    public int sheet() {
        return sheetCount >= MOST_SHEETS ? NONE : newSheet();
    }

    public int tear(int sheet) {
        Sheet torn = untornSheet(sheet);
        if (torn == null) {
            return NONE;
        }
        torn.tornOn = now;
        evidence.fallWith(sheet, now);
        return table.loosen(sheet);
    }

    public boolean open(int sheet) {
        Sheet opened = untornSheet(sheet);
        if (opened == null || opened.openedOn != NEVER) {
            return false;
        }
        opened.openedOn = now;
        return true;
    }

    public int sheets(int k, int what) {
        Sheet told = anySheet(k);
        if (told == null) {
            return NONE;
        }
        switch (what) {
            case 0: return told.came;
            case 1: return dayOrNone(told.openedOn);
            case 2: return dayOrNone(told.tornOn);
            case 3: return told.scraps;
            case 4: return told.lineCount;
            case 5: return told.reports;
            case 6: return told.bills;
            default: return NONE;
        }
    }

    public int person(int rank) {
        if (evidence.personCount >= MOST_PERSONS || !within(rank, NONE, LAST_RANK)) {
            return NONE;
        }
        int number = evidence.personCount++;
        offices.enter(number, rank);
        return number;
    }

    public int seen(int person, int place, int from, int to) {
        if (evidence.seenCount >= MOST_SEEN || !evidence.hasPerson(person) || !within(place, 0, LAST_PLACE)
            || !within(from, 0, LAST_OLD_DAY) || !within(to, from, LAST_OLD_DAY)) {
            return NONE;
        }
        Paper sight = new Paper(null, now);
        sight.person = person;
        sight.place = place;
        sight.day = from;
        sight.lastDay = to;
        return evidence.addSeen(sight);
    }

    public boolean unsee(int seen) {
        return evidence.hasSeen(seen) && evidence.seenPapers[seen].fallOn(now);
    }

    public int cover(int officer) {
        return evidence.addCover(officer);
    }

    public int report(int sheet, int cover, int person, int act, int place, int day, int written) {
        Sheet bearer = untornSheet(sheet);
        if (bearer == null || evidence.reportCount >= MOST_REPORTS
            || !evidence.hasCover(cover) || !evidence.hasPerson(person)) {
            return NONE;
        }
        if (!within(act, 0, ACTS - 1) || !within(place, 0, LAST_PLACE)
            || !within(day, 0, LAST_OLD_DAY) || !within(written, day, LAST_OLD_DAY)) {
            return NONE;
        }
        Paper told = new Paper(bearer, now);
        told.cover = cover;
        told.person = person;
        told.act = act;
        told.place = place;
        told.day = day;
        told.lastDay = written;
        bearer.reports++;
        return evidence.addReport(told);
    }

    public boolean fall(int report) {
        return evidence.hasReport(report) && evidence.reportPapers[report].fallOn(now);
    }

    public int known(int report, int day) {
        if (!evidence.hasReport(report) || !isDay(day)) {
            return NONE;
        }
        return evidence.reportPapers[report].knownOn(day) ? 1 : 0;
    }

    public int out(int cover, int person, int day) {
        if (!evidence.hasCover(cover) || !evidence.hasPerson(person) || !isDay(day)) {
            return WITHOUT;
        }
        return evidence.outBy(cover, person, day);
    }

    public int candidate(int cover, int day, int k) {
        if (!evidence.hasCover(cover) || !isDay(day)) {
            return NONE;
        }
        long left = evidence.candidates(cover, day);
        return k == NONE ? Long.bitCount(left) : numberedBit(left, k);
    }

    public int sure(int cover, int day) {
        return evidence.hasCover(cover) && isDay(day) ? evidence.surePerson(cover, day) : NONE;
    }

    public int next(int cover) {
        return evidence.hasCover(cover) ? evidence.nextPaper(cover, now, sheetCount) : NONE;
    }

    public int made(int report, int day, int what) {
        if (!evidence.hasReport(report) || !isDay(day) || !within(what, 0, 1)) {
            return WITHOUT;
        }
        if (what == 1) {
            return evidence.copiedFrom(report, day);
        }
        return evidence.nobodyCould(report, day) ? 1 : 0;
    }

    public int premium(int act, int coins) {
        if (!within(act, 0, ACTS - 1) || !within(coins, 0, MOST_PREMIUM)) {
            return NONE;
        }
        int before = evidence.premiums[act];
        evidence.premiums[act] = coins;
        return before;
    }

    public int bill(int sheet, int cover, int coins, int day) {
        Sheet bearer = untornSheet(sheet);
        if (bearer == null || evidence.billCount >= MOST_BILLS || !evidence.hasCover(cover)
            || !within(coins, 1, MOST_COINS) || !within(day, 0, LAST_OLD_DAY)) {
            return NONE;
        }
        Paper paid = new Paper(bearer, now);
        paid.cover = cover;
        paid.coins = coins;
        paid.day = day;
        bearer.bills++;
        return evidence.addBill(paid);
    }

    public int account(int officer, int day) {
        return within(officer, 0, OFFICERS - 1) && isDay(day) ? evidence.balance(officer, day) : NO_ACCOUNT;
    }

    public int feed(int a, int b, int c, int d, int e) {
        if (!tape.hasRoom()) {
            return NONE;
        }
        tape.append(a);
        tape.append(b);
        tape.append(c);
        tape.append(d);
        tape.append(e);
        return tape.length;
    }

    public int end(int n) {
        if (!within(n, 0, tape.length)) {
            return NONE;
        }
        tape.length = n;
        return n;
    }

    public int law(int day) {
        if (lawCount >= MOST_LAWS || !within(day, now, LAST_DAY)) {
            return NONE;
        }
        tape.scan();
        tape.length = 0;
        int fault = lawReader.readText();
        if (fault != 0) {
            return -2 - fault;
        }
        laws[lawCount] = new Law(day, lawReader);
        return lawCount++;
    }

    public int force(int day) {
        return isDay(day) ? lawInForce(day) : NONE;
    }

    public int line(int sheet, long named, int length, int word) {
        Sheet bearer = untornSheet(sheet);
        if (bearer == null || bearer.lineCount >= MOST_LINES || (named & ~evidence.everybody()) != 0
            || !within(length, 1, MOST_LENGTH) || !within(word, 0, MOST_WORD)) {
            return NONE;
        }
        return bearer.addLine(named, length, word);
    }

    public int reader(int person, boolean press) {
        if (readerCount >= MOST_READERS || (person != NONE && !evidence.hasPerson(person))) {
            return NONE;
        }
        readers[readerCount] = new Reader(person, press);
        return readerCount++;
    }

    public int may(int reader, int sheet, int line) {
        Sheet read = untornSheet(sheet);
        if (!hasReader(reader) || read == null || !read.hasLine(line)) {
            return NONE;
        }
        Law law = lawOn(now);
        why = readingClause(law, readers[reader], read, line, sureNow(law));
        return verbOf(law, why);
    }

    public int why() {
        return why;
    }

    public boolean ask(int reader, int sheet) {
        Sheet wanted = untornSheet(sheet);
        if (!hasReader(reader) || wanted == null || readers[reader].wanted != null) {
            return false;
        }
        readers[reader].wanted = wanted;
        readers[reader].askedOn = now;
        readers[reader].askings++;
        return true;
    }

    public long turn(int reader) {
        if (!hasReader(reader) || readers[reader].wanted == null) {
            return NO_TURN;
        }
        return turnOf(readers[reader]);
    }

    public int call() {
        int called = foremostReader();
        if (called != NONE) {
            tellSheet(called);
            readers[called].wanted = null;
        }
        return called;
    }

    public int told(int reader, int sheet, int line) {
        Sheet read = anySheet(sheet);
        if (!hasReader(reader) || read == null || !read.hasLine(line)) {
            return NONE;
        }
        return read.toldOf(line, reader);
    }

    public int together(int reader, int cover, int sheet) {
        if (!hasReader(reader) || !evidence.hasCover(cover) || (sheet != NONE && anySheet(sheet) == null)) {
            return NONE;
        }
        return Long.bitCount(evidence.putTogether(reader, cover, sheet, now));
    }

    public int finding(int person, int cover) {
        if (!evidence.hasPerson(person) || !evidence.hasCover(cover)) {
            return NONE;
        }
        return offices.addFinding(person, cover, now);
    }

    public int stands(int finding, int day) {
        if (!offices.hasFinding(finding) || !isDay(day) || day < offices.toldOn[finding]) {
            return NONE;
        }
        return standsOn(finding, day) ? 1 : 0;
    }

    public int need(int cover, int day) {
        return evidence.hasCover(cover) && isDay(day) ? needOf(cover, day) : NONE;
    }

    public boolean appeal(int finding, boolean granted) {
        return offices.hasFinding(finding) && offices.takeAppeal(finding, granted, now);
    }

    public boolean lose(int finding) {
        if (!offices.hasFinding(finding) || !offices.holdsOffice(offices.foundPerson[finding])
            || !standsOn(finding, now)) {
            return false;
        }
        offices.lostBy[offices.foundPerson[finding]] = finding;
        return true;
    }

    public int back() {
        int given = 0;
        for (int person = 0; person < evidence.personCount; person++) {
            int finding = offices.lostBy[person];
            if (offices.hasFinding(finding) && !standsOn(finding, now)) {
                offices.giveBack(person);
                given++;
            }
        }
        return given;
    }

    public int persons(int k, int what) {
        if (!evidence.hasPerson(k)) {
            return WITHOUT;
        }
        switch (what) {
            case 0: return offices.holdsOffice(k) ? offices.rank[k] : NONE;
            case 1: return offices.lostBy[k];
            case 2: return offices.givenBack[k];
            default: return WITHOUT;
        }
    }

    public int asker(int needs, int weight) {
        return sackOrder.addAsker(needs, weight);
    }

    public long order(int n, long sacks) {
        return sackOrder.findBest(n, sacks);
    }

    public int ordered(int k) {
        return sackOrder.sackAt(k);
    }

    public int count(int what) {
        switch (what) {
            case 0: return now;
            case 1: return table.sackCount;
            case 2: return table.scrapCount;
            case 3: return table.looseCount();
            case 4: return sheetCount;
            case 5: return evidence.personCount;
            case 6: return evidence.seenCount;
            case 7: return evidence.coverCount;
            case 8: return evidence.reportCount;
            case 9: return evidence.billCount;
            case 10: return lawCount;
            case 11: return readerCount;
            case 12: return waitingCount();
            case 13: return offices.findingCount;
            case 14: return tape.length;
            case 15: return sackOrder.askerCount;
            default: return NONE;
        }
    }

    private static boolean within(int number, int least, int most) {
        return number >= least && number <= most;
    }

    private static boolean isDay(int day) {
        return within(day, 0, LAST_DAY);
    }

    private static int dayOrNone(int day) {
        return day == NEVER ? NONE : day;
    }

    /** The k-th set bit from the lowest on, NONE if there are not so many. */
    private static int numberedBit(long bits, int k) {
        int before = 0;
        for (int bit = 0; bit < 64; bit++) {
            if ((bits >>> bit & 1) != 0) {
                if (before == k) {
                    return bit;
                }
                before++;
            }
        }
        return NONE;
    }

    private Sheet anySheet(int number) {
        return within(number, 0, sheetCount - 1) ? allSheets[number] : null;
    }

    private Sheet untornSheet(int number) {
        Sheet found = anySheet(number);
        return found == null || found.tornOn != NEVER ? null : found;
    }

    private int newSheet() {
        allSheets[sheetCount] = new Sheet(sheetCount, now);
        return sheetCount++;
    }

    private boolean hasReader(int number) {
        return within(number, 0, readerCount - 1);
    }

    private int waitingCount() {
        int waiting = 0;
        for (int i = 0; i < readerCount; i++) {
            if (readers[i].wanted != null) {
                waiting++;
            }
        }
        return waiting;
    }

    private int lawInForce(int day) {
        int found = NONE;
        for (int i = 0; i < lawCount; i++) {
            if (laws[i].from <= day && (found == NONE || laws[i].from >= laws[found].from)) {
                found = i;
            }
        }
        return found;
    }

    private Law lawOn(int day) {
        int number = lawInForce(day);
        return number == NONE ? null : laws[number];
    }

    /** Who is sure of some cover is dear to find, so only a law that asks for it has it found. */
    private long sureNow(Law law) {
        return law != null && law.asksSource ? evidence.surePersons(now) : 0;
    }

    private void setReaderWords(Reader reader, Sheet sheet) {
        Arrays.fill(words, 0);
        words[AGE] = now - sheet.came;
        words[LINES] = sheet.lineCount;
        words[PRESS] = reader.press ? 1 : 0;
        words[WAITS] = reader.wanted != null ? now - reader.askedOn : 0;
        words[ASKED] = reader.wanted != null ? reader.askings - 1 : reader.askings;
        words[DAY] = now;
    }

    /** The clause by which a reader may read a line, NONE if no clause of the law says so. */
    private int readingClause(Law law, Reader reader, Sheet sheet, int line, long sure) {
        if (law == null) {
            return NONE;
        }
        long own = reader.person == NONE ? 0 : 1L << reader.person;
        long others = sheet.named[line] & ~own;
        setReaderWords(reader, sheet);
        words[SELF] = (sheet.named[line] & own) != 0 ? 1 : 0;
        words[THIRD] = Long.bitCount(others);
        words[SOURCE] = Long.bitCount(others & sure);
        return law.firstTrue(READ, words);
    }

    private static int verbOf(Law law, int clause) {
        return law == null || clause == NONE ? BAR : law.numbers[clause];
    }

    private long turnOf(Reader reader) {
        Law law = lawOn(now);
        if (law == null || reader.wanted == null) {
            return 0;
        }
        setReaderWords(reader, reader.wanted);
        return law.firstTurn(words);
    }

    /** The reader whose turn it is; looking in order of numbers keeps the least reader among equals. */
    private int foremostReader() {
        int foremost = NONE;
        long greatest = 0;
        for (int i = 0; i < readerCount; i++) {
            Sheet wanted = readers[i].wanted;
            if (wanted != null && wanted.openedOn != NEVER && wanted.tornOn == NEVER) {
                long turn = turnOf(readers[i]);
                if (foremost == NONE || turn > greatest
                    || (turn == greatest && readers[i].askedOn < readers[foremost].askedOn)) {
                    foremost = i;
                    greatest = turn;
                }
            }
        }
        return foremost;
    }

    private void tellSheet(int reader) {
        Sheet sheet = readers[reader].wanted;
        if (sheet == null) {
            return;
        }
        Law law = lawOn(now);
        long sure = sureNow(law);
        for (int line = 0; line < sheet.lineCount; line++) {
            sheet.tell(line, reader, verbOf(law, readingClause(law, readers[reader], sheet, line, sure)));
        }
    }

    private int needOf(int cover, int day) {
        Law law = lawOn(day);
        if (law == null) {
            return MOST_NEED;
        }
        Arrays.fill(words, 0);
        words[REPORTS] = evidence.reportsKnown(cover, day);
        words[BILLS] = evidence.billsKnown(cover, day);
        words[DAY] = day;
        int clause = law.firstTrue(NEED, words);
        return clause == NONE ? MOST_NEED : law.numbers[clause];
    }

    private boolean standsOn(int finding, int day) {
        int cover = offices.foundCover[finding];
        if (offices.grantedOn[finding] <= day
            || (evidence.candidates(cover, day) >>> offices.foundPerson[finding] & 1) == 0) {
            return false;
        }
        return evidence.reportsKnown(cover, day) + evidence.billsKnown(cover, day) >= needOf(cover, day);
    }

    /** The sacks and the scraps that lie in them. */
    private static final class Scraps {
        int sackCount;
        int scrapCount;
        final int[] hours = new int[MOST_SACKS];
        final int[] sackOf = new int[MOST_SCRAPS];
        final int[] handOf = new int[MOST_SCRAPS];
        final int[] sheetOf = new int[MOST_SCRAPS];
        final long[] edgesOf = new long[MOST_SCRAPS];

        int addSack(int work) {
            if (sackCount >= MOST_SACKS || !within(work, 1, MOST_HOURS)) {
                return NONE;
            }
            hours[sackCount] = work;
            return sackCount++;
        }

        int addScrap(int sack, int hand, long edges) {
            if (scrapCount >= MOST_SCRAPS || !hasSack(sack) || !within(hand, 0, LAST_HAND)) {
                return NONE;
            }
            sackOf[scrapCount] = sack;
            handOf[scrapCount] = hand;
            sheetOf[scrapCount] = NONE;
            edgesOf[scrapCount] = edges;
            return scrapCount++;
        }

        boolean hasSack(int number) {
            return within(number, 0, sackCount - 1);
        }

        boolean hasScrap(int number) {
            return within(number, 0, scrapCount - 1);
        }

        int edge(int scrap, int side) {
            return (short) (edgesOf[scrap] >>> (48 - 16 * side));
        }

        boolean joinsRight(int left, int right) {
            return handOf[left] == handOf[right] && edgesJoin(edge(left, RIGHT), edge(right, LEFT));
        }

        boolean joinsBelow(int upper, int lower) {
            return handOf[upper] == handOf[lower] && edgesJoin(edge(upper, DOWN), edge(lower, UP));
        }

        private static boolean edgesJoin(int one, int other) {
            return one != SMOOTH && one != TORN_OFF && one == -other;
        }

        int looseCount() {
            int loose = 0;
            for (int i = 0; i < scrapCount; i++) {
                if (sheetOf[i] == NONE) {
                    loose++;
                }
            }
            return loose;
        }

        int loosen(int sheet) {
            int loosened = 0;
            for (int i = 0; i < scrapCount; i++) {
                if (sheetOf[i] == sheet) {
                    sheetOf[i] = NONE;
                    loosened++;
                }
            }
            return loosened;
        }
    }

    /** The best ways to lay a sack's loose scraps, kept from the latest laying that was not refused. */
    private static final class Laying {
        private final Scraps table;
        private int size;
        private int columns;
        private int best;
        private int ways;
        private final int[] members = new int[MOST_LAID];
        /** For each member the members (as bits) that join on its right, and below it. */
        private final int[] rightOf = new int[MOST_LAID];
        private final int[] below = new int[MOST_LAID];
        /** How many fits a member could at most have with those on its left and above it. */
        private final int[] hopes = new int[MOST_LAID];
        /** How many neighbours meet from a spot on. */
        private final int[] joints = new int[MOST_LAID + 1];
        private final int[] spots = new int[MOST_LAID];
        private final int[] first = new int[MOST_LAID];
        private final int[] second = new int[MOST_LAID];
        private final int[] judgedRow = new int[MOST_LAID];

        Laying(Scraps table) {
            this.table = table;
        }

        private static boolean isShape(int columns, int rows) {
            return within(columns, 1, MOST_LAID) && within(rows, 1, MOST_LAID) && columns * rows <= MOST_LAID;
        }

        int layBest(int sack, int columns, int rows) {
            if (!table.hasSack(sack) || !isShape(columns, rows) || looseIn(sack) != columns * rows) {
                return NONE;
            }
            size = columns * rows;
            this.columns = columns;
            gather(sack);
            measure();
            int hope = 0;
            for (int i = 0; i < size; i++) {
                hope += hopes[i];
            }
            best = NONE;
            ways = 0;
            search(0, 0, 0, hope);
            return best;
        }

        private int looseIn(int sack) {
            int loose = 0;
            for (int i = 0; i < table.scrapCount; i++) {
                if (table.sackOf[i] == sack && table.sheetOf[i] == NONE) {
                    loose++;
                }
            }
            return loose;
        }

        private void gather(int sack) {
            int found = 0;
            for (int i = 0; i < table.scrapCount && found < size; i++) {
                if (table.sackOf[i] == sack && table.sheetOf[i] == NONE) {
                    members[found] = i;
                    found++;
                }
            }
        }

        private void measure() {
            int rightAtAll = 0;
            int belowAtAll = 0;
            for (int a = 0; a < size; a++) {
                rightOf[a] = 0;
                below[a] = 0;
                for (int b = 0; b < size; b++) {
                    if (a != b && table.joinsRight(members[a], members[b])) {
                        rightOf[a] |= 1 << b;
                    }
                    if (a != b && table.joinsBelow(members[a], members[b])) {
                        below[a] |= 1 << b;
                    }
                }
                rightAtAll |= rightOf[a];
                belowAtAll |= below[a];
            }
            joints[size] = 0;
            for (int i = size - 1; i >= 0; i--) {
                hopes[i] = (rightAtAll >> i & 1) + (belowAtAll >> i & 1);
                joints[i] = joints[i + 1] + (i % columns > 0 ? 1 : 0) + (i >= columns ? 1 : 0);
            }
        }

        /** Goes through the ways in the order that ranks them, and leaves out what can no more be as good. */
        private void search(int spot, int used, int fits, int hope) {
            if (fits + Math.min(hope, joints[spot]) < best) {
                return;
            }
            if (spot >= size || hope == 0) {
                record(spot, used, fits);
                return;
            }
            for (int i = 0; i < size; i++) {
                if ((used >> i & 1) == 0) {
                    spots[spot] = i;
                    search(spot + 1, used | 1 << i, fits + gain(spot, i), hope - hopes[i]);
                }
            }
        }

        private int gain(int spot, int member) {
            int gained = 0;
            if (spot % columns > 0) {
                gained += rightOf[spots[spot - 1]] >> member & 1;
            }
            if (spot >= columns) {
                gained += below[spots[spot - columns]] >> member & 1;
            }
            return gained;
        }

        /** From this spot on nothing more can fit, so all orders of the rest are alike. */
        private void record(int spot, int used, int fits) {
            int rest = size - spot;
            if (fits > best) {
                best = fits;
                ways = 0;
            }
            if (ways == 0) {
                fillWay(first, spot, used);
                if (rest > 1) {
                    fillWay(second, spot, used);
                    int last = second[size - 1];
                    second[size - 1] = second[size - 2];
                    second[size - 2] = last;
                }
            } else if (ways == 1) {
                fillWay(second, spot, used);
            }
            ways += FACTORIALS[rest];
        }

        private void fillWay(int[] way, int spot, int used) {
            for (int i = 0; i < spot; i++) {
                way[i] = members[spots[i]];
            }
            int filled = spot;
            for (int i = 0; i < size; i++) {
                if ((used >> i & 1) == 0 && filled < size) {
                    way[filled] = members[i];
                    filled++;
                }
            }
        }

        int waysFound() {
            return size == 0 ? NONE : ways;
        }

        int scrapAt(int way, int k) {
            return hasWay(way) && within(k, 0, size - 1) ? wayRow(way)[k] : NONE;
        }

        private boolean hasWay(int way) {
            return size > 0 && within(way, 0, 1) && way < ways;
        }

        private int[] wayRow(int way) {
            return way == 0 ? first : second;
        }

        boolean canTake(int way) {
            if (!hasWay(way)) {
                return false;
            }
            for (int i = 0; i < size; i++) {
                if (table.sheetOf[first[i]] != NONE) {
                    return false;
                }
            }
            return true;
        }

        int takeFor(int way, int sheet) {
            int[] row = wayRow(way);
            for (int i = 0; i < size; i++) {
                table.sheetOf[row[i]] = sheet;
            }
            return size;
        }

        int judge(int columns, int rows, long scraps) {
            if (!isShape(columns, rows) || !unpack(columns * rows, scraps)) {
                return NONE;
            }
            int fits = 0;
            for (int i = 0; i < columns * rows; i++) {
                if (i % columns > 0 && table.joinsRight(judgedRow[i - 1], judgedRow[i])) {
                    fits++;
                }
                if (i >= columns && table.joinsBelow(judgedRow[i - columns], judgedRow[i])) {
                    fits++;
                }
            }
            return fits;
        }

        private boolean unpack(int many, long scraps) {
            for (int i = 0; i < many; i++) {
                judgedRow[i] = (int) (scraps >>> 8 * i & 255);
                if (!table.hasScrap(judgedRow[i])) {
                    return false;
                }
                for (int j = 0; j < i; j++) {
                    if (judgedRow[j] == judgedRow[i]) {
                        return false;
                    }
                }
            }
            return true;
        }
    }

    /** A sheet with its days, its lines, and to which readers (as bits) each line was told. */
    private static final class Sheet {
        final int number;
        final int came;
        int openedOn = NEVER;
        int tornOn = NEVER;
        int scraps;
        int reports;
        int bills;
        int lineCount;
        final long[] named = new long[MOST_LINES];
        private final int[] lengths = new int[MOST_LINES];
        private final int[] lineWords = new int[MOST_LINES];
        private final int[] wordTo = new int[MOST_LINES];
        private final int[] lengthTo = new int[MOST_LINES];

        Sheet(int number, int came) {
            this.number = number;
            this.came = came;
        }

        boolean hasLine(int line) {
            return within(line, 0, lineCount - 1);
        }

        int addLine(long persons, int length, int word) {
            named[lineCount] = persons;
            lengths[lineCount] = length;
            lineWords[lineCount] = word;
            return lineCount++;
        }

        void tell(int line, int reader, int verb) {
            if (verb == LET) {
                wordTo[line] |= 1 << reader;
            } else if (verb == BLACK) {
                lengthTo[line] |= 1 << reader;
            }
        }

        int toldOf(int line, int reader) {
            if ((wordTo[line] >>> reader & 1) != 0) {
                return lineWords[line];
            }
            return (lengthTo[line] >>> reader & 1) != 0 ? -2 - lengths[line] : NONE;
        }

        boolean wholeTo(int reader) {
            for (int i = 0; i < lineCount; i++) {
                if ((wordTo[i] >>> reader & 1) == 0) {
                    return false;
                }
            }
            return lineCount > 0;
        }
    }

    /** What was told once and may fall: a sighting (of no sheet), a report or a bill. */
    private static final class Paper {
        final Sheet sheet;
        final int came;
        int fell = NEVER;
        int cover;
        int person;
        int act;
        int place;
        int coins;
        int day;
        /** Of a sighting its last day, of a report the day on which it was written. */
        int lastDay;

        Paper(Sheet sheet, int came) {
            this.sheet = sheet;
            this.came = came;
        }

        boolean fallOn(int today) {
            if (fell != NEVER) {
                return false;
            }
            fell = today;
            return true;
        }

        boolean knownOn(int today) {
            return came <= today && today < fell && (sheet == null || sheet.openedOn <= today);
        }

        boolean isOf(int number) {
            return sheet != null && sheet.number == number;
        }

        boolean tellsTheSame(Paper other) {
            return act == other.act && person == other.person && place == other.place && day == other.day;
        }
    }

    /** Persons, covers and papers: who can stand behind a name, by what is known on a day. Persons are bits. */
    private static final class Evidence {
        int personCount;
        int coverCount;
        int seenCount;
        int reportCount;
        int billCount;
        private final int[] officerOf = new int[MOST_COVERS];
        final int[] premiums = new int[ACTS];
        final Paper[] seenPapers = new Paper[MOST_SEEN];
        final Paper[] reportPapers = new Paper[MOST_REPORTS];
        private final Paper[] billPapers = new Paper[MOST_BILLS];
        private final long[] leftBySheet = new long[MOST_SHEETS];

        boolean hasPerson(int number) {
            return within(number, 0, personCount - 1);
        }

        boolean hasCover(int number) {
            return within(number, 0, coverCount - 1);
        }

        boolean hasSeen(int number) {
            return within(number, 0, seenCount - 1);
        }

        boolean hasReport(int number) {
            return within(number, 0, reportCount - 1);
        }

        int addCover(int officer) {
            if (coverCount >= MOST_COVERS || !within(officer, 0, OFFICERS - 1)) {
                return NONE;
            }
            officerOf[coverCount] = officer;
            return coverCount++;
        }

        int addSeen(Paper sight) {
            seenPapers[seenCount] = sight;
            return seenCount++;
        }

        int addReport(Paper told) {
            reportPapers[reportCount] = told;
            return reportCount++;
        }

        int addBill(Paper paid) {
            billPapers[billCount] = paid;
            return billCount++;
        }

        void fallWith(int sheet, int today) {
            for (int i = 0; i < reportCount; i++) {
                if (reportPapers[i].isOf(sheet)) {
                    reportPapers[i].fallOn(today);
                }
            }
            for (int i = 0; i < billCount; i++) {
                if (billPapers[i].isOf(sheet)) {
                    billPapers[i].fallOn(today);
                }
            }
        }

        long everybody() {
            return (1L << personCount) - 1;
        }

        /** Of whom the report tells, and who was seen on the day of the deed, but not where it was done. */
        private long ruledOut(Paper report, int day) {
            long somewhere = 0;
            long there = 0;
            for (int i = 0; i < seenCount; i++) {
                Paper sight = seenPapers[i];
                if (sight.day <= report.day && report.day <= sight.lastDay && sight.knownOn(day)) {
                    long who = 1L << sight.person;
                    somewhere |= who;
                    if (sight.place == report.place) {
                        there |= who;
                    }
                }
            }
            return somewhere & ~there | 1L << report.person;
        }

        int outBy(int cover, int person, int day) {
            for (int i = 0; i < reportCount; i++) {
                Paper report = reportPapers[i];
                if (report.cover == cover && report.knownOn(day)
                    && (ruledOut(report, day) >>> person & 1) != 0) {
                    return i;
                }
            }
            return NONE;
        }

        long candidates(int cover, int day) {
            long left = everybody();
            for (int i = 0; i < reportCount; i++) {
                Paper report = reportPapers[i];
                if (report.cover == cover && report.knownOn(day)) {
                    left &= ~ruledOut(report, day);
                }
            }
            return left;
        }

        int reportsKnown(int cover, int day) {
            return papersKnown(reportPapers, reportCount, cover, day);
        }

        int billsKnown(int cover, int day) {
            return papersKnown(billPapers, billCount, cover, day);
        }

        private static int papersKnown(Paper[] papers, int many, int cover, int day) {
            int known = 0;
            for (int i = 0; i < many; i++) {
                if (papers[i].cover == cover && papers[i].knownOn(day)) {
                    known++;
                }
            }
            return known;
        }

        int surePerson(int cover, int day) {
            if (reportsKnown(cover, day) == 0) {
                return NONE;
            }
            long left = candidates(cover, day);
            return Long.bitCount(left) == 1 ? numberedBit(left, 0) : NONE;
        }

        long surePersons(int day) {
            long sure = 0;
            for (int i = 0; i < coverCount; i++) {
                int person = surePerson(i, day);
                if (person != NONE) {
                    sure |= 1L << person;
                }
            }
            return sure;
        }

        int nextPaper(int cover, int today, int sheetCount) {
            long left = candidates(cover, today);
            int many = Long.bitCount(left);
            Arrays.fill(leftBySheet, left);
            for (int i = 0; i < reportCount; i++) {
                Paper report = reportPapers[i];
                if (report.cover == cover && report.fell == NEVER && report.sheet != null
                    && report.sheet.openedOn == NEVER) {
                    leftBySheet[report.sheet.number] &= ~ruledOut(report, today);
                }
            }
            int found = NONE;
            int nearest = 0;
            for (int i = 0; i < sheetCount; i++) {
                int would = Long.bitCount(leftBySheet[i]);
                int far = Math.abs(2 * would - many);
                if (would < many && (found == NONE || far < nearest)) {
                    found = i;
                    nearest = far;
                }
            }
            return found;
        }

        boolean nobodyCould(int number, int day) {
            return (everybody() & ~ruledOut(reportPapers[number], day)) == 0;
        }

        int copiedFrom(int number, int day) {
            Paper copy = reportPapers[number];
            int found = NONE;
            int earliest = 0;
            for (int i = 0; i < reportCount; i++) {
                Paper report = reportPapers[i];
                boolean earlier = report.lastDay < copy.lastDay || (report.lastDay == copy.lastDay && i < number);
                if (earlier && report.cover != copy.cover && report.tellsTheSame(copy) && report.knownOn(day)
                    && (found == NONE || report.lastDay < earliest)) {
                    found = i;
                    earliest = report.lastDay;
                }
            }
            return found;
        }

        int balance(int officer, int day) {
            int coins = 0;
            for (int i = 0; i < billCount; i++) {
                Paper bill = billPapers[i];
                if (officerOf[bill.cover] == officer && bill.knownOn(day)) {
                    coins += bill.coins;
                }
            }
            for (int i = 0; i < reportCount; i++) {
                Paper report = reportPapers[i];
                if (officerOf[report.cover] == officer && report.knownOn(day)
                    && copiedFrom(i, day) == NONE && !nobodyCould(i, day)) {
                    coins -= premiums[report.act];
                }
            }
            return coins;
        }

        long putTogether(int reader, int cover, int further, int today) {
            long left = everybody();
            for (int i = 0; i < reportCount; i++) {
                Paper report = reportPapers[i];
                if (report.cover == cover && report.sheet != null) {
                    boolean told = report.knownOn(today) && report.sheet.wholeTo(reader);
                    if (told || (report.isOf(further) && report.fell == NEVER)) {
                        left &= ~ruledOut(report, today);
                    }
                }
            }
            return left;
        }
    }

    /** The bytes of a text to come, and the tokens into which the latest scan cut them. */
    private static final class Tape {
        int length;
        private final int[] bytes = new int[MOST_BYTES];
        private int tokenCount;
        final int[] tokens = new int[MOST_BYTES + 1];
        final int[] places = new int[MOST_BYTES + 1];

        boolean hasRoom() {
            return length + 20 <= MOST_BYTES;
        }

        void append(int four) {
            for (int shift = 24; shift >= 0 && length < MOST_BYTES; shift -= 8) {
                bytes[length] = four >>> shift & 255;
                length++;
            }
        }

        void scan() {
            tokenCount = 0;
            int place = 0;
            for (int i = 0; i < MOST_BYTES && place < length; i++) {
                if (bytes[place] == ' ') {
                    place++;
                } else {
                    int end = tokenEnd(place);
                    keep(tokenFrom(place, end), place);
                    place = end;
                }
            }
            keep(END, length);
        }

        private void keep(int token, int place) {
            if (tokenCount < tokens.length) {
                tokens[tokenCount] = token;
                places[tokenCount] = place;
                tokenCount++;
            }
        }

        private static boolean isDigit(int sign) {
            return sign >= '0' && sign <= '9';
        }

        private static boolean isLetter(int sign) {
            return sign >= 'a' && sign <= 'z';
        }

        private int tokenEnd(int place) {
            int first = bytes[place];
            int end = place + 1;
            if (first == '<' || first == '>') {
                return end < length && bytes[end] == '=' ? end + 1 : end;
            }
            while (end < length
                && (isDigit(first) && isDigit(bytes[end]) || isLetter(first) && isLetter(bytes[end]))) {
                end++;
            }
            return end;
        }

        private int tokenFrom(int place, int end) {
            int first = bytes[place];
            if (isDigit(first)) {
                return numberFrom(place, end);
            }
            if (isLetter(first)) {
                int word = wordFrom(place, end);
                return word == NONE ? UNKNOWN : FIRST_WORD + word;
            }
            return signFrom(first, end - place > 1);
        }

        private int numberFrom(int place, int end) {
            if (end - place > MOST_DIGITS) {
                return TOO_LONG;
            }
            int number = 0;
            for (int i = place; i < end; i++) {
                number = number * 10 + bytes[i] - '0';
            }
            return number;
        }

        private int wordFrom(int place, int end) {
            int number = 0;
            int start = 0;
            for (int i = 0; i <= WORDS.length(); i++) {
                if (i == WORDS.length() || WORDS.charAt(i) == ' ') {
                    if (i - start == end - place && sameLetters(start, place, end)) {
                        return number;
                    }
                    number++;
                    start = i + 1;
                }
            }
            return NONE;
        }

        private boolean sameLetters(int start, int place, int end) {
            for (int i = 0; i < end - place; i++) {
                if (WORDS.charAt(start + i) != bytes[place + i]) {
                    return false;
                }
            }
            return true;
        }

        private static int signFrom(int sign, boolean orEqual) {
            switch (sign) {
                case ';': return SEMICOLON;
                case '(': return OPENED;
                case ')': return CLOSED;
                case '[': return TEST_OPENED;
                case ']': return TEST_CLOSED;
                case '+': return PLUS;
                case '-': return MINUS;
                case '*': return TIMES;
                case '<': return orEqual ? AT_MOST : LESS;
                case '=': return EQUAL;
                case '>': return orEqual ? AT_LEAST : MORE;
                default: return UNKNOWN;
            }
        }
    }

    /** Reads the tokens of a tape as a law, up to its first fault; values come ahead of what joins them. */
    private static final class LawReader {
        private final int[] tokens;
        private final int[] places;
        private int at;
        private int fault;
        private int counted;
        int clauseCount;
        int codeSize;
        final int[] kinds = new int[MOST_CLAUSES];
        final int[] numbers = new int[MOST_CLAUSES];
        final int[] ends = new int[MOST_CLAUSES];
        final int[] code = new int[MOST_BYTES];

        LawReader(Tape tape) {
            tokens = tape.tokens;
            places = tape.places;
        }

        /** The fault of the text, 0 if it is a law. */
        int readText() {
            at = 0;
            fault = 0;
            counted = 0;
            clauseCount = 0;
            codeSize = 0;
            readClause();
            for (int i = 0; i < MOST_BYTES && fault == 0 && token() != END; i++) {
                if (accept(SEMICOLON)) {
                    readClause();
                } else {
                    refuse(FAULT_PLACE);
                }
            }
            return fault;
        }

        private int token() {
            return at < tokens.length ? tokens[at] : END;
        }

        /** Only the first fault counts, and it lies where the reading stands. */
        private void refuse(int kind) {
            if (fault == 0 && at < places.length) {
                fault = 1 + 8 * places[at] + kind;
            }
        }

        private boolean accept(int token) {
            if (fault != 0 || at >= tokens.length || tokens[at] != token) {
                return false;
            }
            at++;
            return true;
        }

        private void emit(int token) {
            if (fault == 0 && codeSize < code.length) {
                code[codeSize] = token;
                codeSize++;
            }
        }

        private void readClause() {
            int kind = token();
            if (kind != READ && kind != NEED && kind != TURN) {
                refuse(FAULT_PLACE);
            } else if (clauseCount >= MOST_CLAUSES) {
                refuse(FAULT_CLAUSE);
            } else {
                at++;
                kinds[clauseCount] = kind;
                numbers[clauseCount] = kind == READ ? readVerb() : kind == NEED ? readNeed() : 0;
                if (kind == TURN) {
                    readSum(0);
                } else if (accept(IF)) {
                    readTest(0);
                } else {
                    refuse(FAULT_PLACE);
                }
                ends[clauseCount] = codeSize;
                clauseCount++;
            }
        }

        private int readVerb() {
            for (int verb = LET; verb <= BAR; verb++) {
                if (accept(VERBS + verb)) {
                    return verb;
                }
            }
            refuse(FAULT_PLACE);
            return BAR;
        }

        private int readNeed() {
            int number = token();
            if (number > TOO_LONG) {
                refuse(FAULT_PLACE);
            } else if (number > MOST_NEED) {
                refuse(FAULT_NUMBER);
            } else {
                at++;
            }
            return number;
        }

        private void readTest(int depth) {
            for (int parts = 0; parts < MOST_BYTES && fault == 0; parts++) {
                readFact(depth);
                for (int facts = 0; facts < MOST_BYTES && accept(AND); facts++) {
                    readFact(depth);
                    emit(AND);
                }
                if (parts > 0) {
                    emit(OR);
                }
                if (!accept(OR)) {
                    return;
                }
            }
        }

        private void readFact(int depth) {
            int first = token();
            if ((first == NOT || first == TEST_OPENED) && depth >= MOST_DEEP) {
                refuse(FAULT_DEEP);
            } else if (accept(NOT)) {
                readFact(depth + 1);
                emit(NOT);
            } else if (accept(TEST_OPENED)) {
                readTest(depth + 1);
                if (!accept(TEST_CLOSED)) {
                    refuse(FAULT_PLACE);
                }
            } else {
                readSum(depth);
                int sign = token();
                if (sign < LESS || sign > MORE) {
                    refuse(FAULT_PLACE);
                    return;
                }
                counted++;
                if (counted > MOST_VALUES) {
                    refuse(FAULT_MANY);
                }
                at++;
                readSum(depth);
                emit(sign);
            }
        }

        private void readSum(int depth) {
            int joint = NONE;
            for (int terms = 0; terms < MOST_BYTES && fault == 0; terms++) {
                readValue(depth);
                for (int values = 0; values < MOST_BYTES && accept(TIMES); values++) {
                    readValue(depth);
                    emit(TIMES);
                }
                if (joint != NONE) {
                    emit(joint);
                }
                joint = token();
                if (joint != PLUS && joint != MINUS) {
                    return;
                }
                at++;
            }
        }

        private void readValue(int depth) {
            int first = token();
            boolean plain = first < TOO_LONG || (first >= FIRST_WORD && first < FIRST_WORD + VALUE_WORDS);
            if (!plain && first != OPENED) {
                refuse(first == TOO_LONG ? FAULT_NUMBER : FAULT_PLACE);
                return;
            }
            if (first == OPENED && depth >= MOST_DEEP) {
                refuse(FAULT_DEEP);
                return;
            }
            counted++;
            if (counted > MOST_VALUES) {
                refuse(FAULT_MANY);
            }
            at++;
            if (plain) {
                emit(first);
                return;
            }
            readSum(depth + 1);
            if (!accept(CLOSED)) {
                refuse(FAULT_PLACE);
            }
        }
    }

    /** A law in force from a day on: clauses, each with the code of its test or sum. */
    private static final class Law {
        final int from;
        final boolean asksSource;
        final int[] numbers;
        private final int[] kinds;
        private final int[] ends;
        private final int[] code;
        private final long[] stack = new long[MOST_VALUES];

        Law(int from, LawReader source) {
            this.from = from;
            kinds = Arrays.copyOf(source.kinds, source.clauseCount);
            numbers = Arrays.copyOf(source.numbers, source.clauseCount);
            ends = Arrays.copyOf(source.ends, source.clauseCount);
            code = Arrays.copyOf(source.code, source.codeSize);
            boolean asks = false;
            for (int i = 0; i < code.length; i++) {
                asks |= code[i] == FIRST_WORD + SOURCE;
            }
            asksSource = asks;
        }

        int firstTrue(int kind, long[] words) {
            for (int i = 0; i < kinds.length; i++) {
                if (kinds[i] == kind && valueOf(i, words) != 0) {
                    return i;
                }
            }
            return NONE;
        }

        long firstTurn(long[] words) {
            for (int i = 0; i < kinds.length; i++) {
                if (kinds[i] == TURN) {
                    return valueOf(i, words);
                }
            }
            return 0;
        }

        private long valueOf(int clause, long[] words) {
            int top = 0;
            for (int i = clause == 0 ? 0 : ends[clause - 1]; i < ends[clause]; i++) {
                int token = code[i];
                if (token < FIRST_WORD + VALUE_WORDS) {
                    if (top < stack.length) {
                        stack[top] = token < FIRST_WORD ? token : words[token - FIRST_WORD];
                        top++;
                    }
                } else if (token == NOT) {
                    if (top > 0) {
                        stack[top - 1] = 1 - stack[top - 1];
                    }
                } else if (top > 1) {
                    top--;
                    stack[top - 1] = joined(token, stack[top - 1], stack[top]);
                }
            }
            return stack[0];
        }

        private static long joined(int token, long left, long right) {
            switch (token) {
                case PLUS: return left + right;
                case MINUS: return left - right;
                case TIMES: return left * right;
                case LESS: return left < right ? 1 : 0;
                case AT_MOST: return left <= right ? 1 : 0;
                case EQUAL: return left == right ? 1 : 0;
                case AT_LEAST: return left >= right ? 1 : 0;
                case MORE: return left > right ? 1 : 0;
                case AND: return left & right;
                case OR: return left | right;
                default: return 0;
            }
        }
    }

    /** A reader, and the sheet for which he waits (null if for none). */
    private static final class Reader {
        final int person;
        final boolean press;
        Sheet wanted;
        int askedOn;
        int askings;

        Reader(int person, boolean press) {
            this.person = person;
            this.press = press;
        }
    }

    /** Findings with their appeals, and the offices that were lost by them. */
    private static final class Offices {
        int findingCount;
        final int[] foundPerson = new int[MOST_FINDINGS];
        final int[] foundCover = new int[MOST_FINDINGS];
        final int[] toldOn = new int[MOST_FINDINGS];
        final int[] grantedOn = new int[MOST_FINDINGS];
        private final boolean[] appealed = new boolean[MOST_FINDINGS];
        final int[] rank = new int[MOST_PERSONS];
        final int[] lostBy = new int[MOST_PERSONS];
        final int[] givenBack = new int[MOST_PERSONS];

        void enter(int person, int officeRank) {
            rank[person] = officeRank;
            lostBy[person] = NONE;
        }

        boolean hasFinding(int number) {
            return within(number, 0, findingCount - 1);
        }

        int addFinding(int person, int cover, int today) {
            if (findingCount >= MOST_FINDINGS) {
                return NONE;
            }
            foundPerson[findingCount] = person;
            foundCover[findingCount] = cover;
            toldOn[findingCount] = today;
            grantedOn[findingCount] = NEVER;
            return findingCount++;
        }

        boolean takeAppeal(int finding, boolean granted, int today) {
            if (appealed[finding]) {
                return false;
            }
            appealed[finding] = true;
            if (granted) {
                grantedOn[finding] = today;
            }
            return true;
        }

        boolean holdsOffice(int person) {
            return rank[person] != NONE && lostBy[person] == NONE;
        }

        void giveBack(int person) {
            lostBy[person] = NONE;
            givenBack[person]++;
        }
    }

    /** The askers who wait for sacks, and the latest best order. Sets of listed sacks are bits. */
    private static final class SackOrder {
        private final Scraps table;
        int askerCount;
        private final int[] needsOf = new int[MOST_ASKERS];
        private final int[] weightOf = new int[MOST_ASKERS];
        private int orderedCount;
        private final int[] best = new int[MOST_ORDERED];
        private final int[] listed = new int[MOST_ORDERED];
        /** By the set of sacks that are done: its hours, the weights served by it, the least cost still to come. */
        private final int[] hoursOf = new int[1 << MOST_ORDERED];
        private final int[] servedBy = new int[1 << MOST_ORDERED];
        private final long[] restOf = new long[1 << MOST_ORDERED];

        SackOrder(Scraps table) {
            this.table = table;
        }

        int addAsker(int needs, int weight) {
            if (askerCount >= MOST_ASKERS || !within(needs, 1, (1 << MOST_ORDERED) - 1)
                || !within(weight, 1, MOST_WEIGHT)) {
                return NONE;
            }
            needsOf[askerCount] = needs;
            weightOf[askerCount] = weight;
            askerCount++;
            return askerCount;
        }

        int sackAt(int k) {
            return within(k, 0, orderedCount - 1) ? best[k] : NONE;
        }

        long findBest(int n, long sacks) {
            if (!within(n, 1, MOST_ORDERED) || !unpack(n, sacks) || !needsWithin(n)) {
                return NONE;
            }
            measure(n);
            for (int done = (1 << n) - 1; done >= 0; done--) {
                restOf[done] = leastRest(n, done);
            }
            choose(n);
            orderedCount = n;
            askerCount = 0;
            return restOf[0];
        }

        private boolean unpack(int n, long sacks) {
            for (int i = 0; i < n; i++) {
                listed[i] = (int) (sacks >>> 5 * i & 31);
                if (!table.hasSack(listed[i])) {
                    return false;
                }
                for (int j = 0; j < i; j++) {
                    if (listed[j] == listed[i]) {
                        return false;
                    }
                }
            }
            return true;
        }

        private boolean needsWithin(int n) {
            for (int i = 0; i < askerCount; i++) {
                if (needsOf[i] >>> n != 0) {
                    return false;
                }
            }
            return true;
        }

        private void measure(int n) {
            for (int done = 0; done < 1 << n; done++) {
                int hours = 0;
                for (int i = 0; i < n; i++) {
                    hours += (done >>> i & 1) * table.hours[listed[i]];
                }
                int served = 0;
                for (int i = 0; i < askerCount; i++) {
                    served += (needsOf[i] & ~done) == 0 ? weightOf[i] : 0;
                }
                hoursOf[done] = hours;
                servedBy[done] = served;
            }
        }

        private long costWith(int done, int sack) {
            int then = done | 1 << sack;
            return (long) hoursOf[then] * (servedBy[then] - servedBy[done]) + restOf[then];
        }

        private long leastRest(int n, int done) {
            long least = NONE;
            for (int i = 0; i < n; i++) {
                if ((done >>> i & 1) == 0) {
                    long cost = costWith(done, i);
                    least = least == NONE ? cost : Math.min(least, cost);
                }
            }
            return least == NONE ? 0 : least;
        }

        private void choose(int n) {
            int done = 0;
            for (int k = 0; k < n; k++) {
                int chosen = NONE;
                for (int i = 0; i < n; i++) {
                    if ((done >>> i & 1) == 0 && costWith(done, i) == restOf[done]
                        && (chosen == NONE || listed[i] < listed[chosen])) {
                        chosen = i;
                    }
                }
                if (chosen != NONE) {
                    best[k] = listed[chosen];
                    done |= 1 << chosen;
                }
            }
        }
    }
}
