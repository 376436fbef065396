import java.util.ArrayList;
import java.util.Arrays;
import java.util.HashMap;
import java.util.HashSet;
import java.util.List;
import java.util.Map;
import java.util.Set;
import java.util.TreeSet;

/** The document written a second time, as plainly as it goes and with no thought of cost. */
final class Model {
    static final int NEVER = 1000000;

    static final class Scrap {
        int sack;
        int hand;
        int[] edges;
        int sheet = -1;
    }

    static final class Line {
        long named;
        int length;
        int word;
        Set<Integer> words = new HashSet<>();
        Set<Integer> lengths = new HashSet<>();
    }

    static final class Sheet {
        int came;
        int open = NEVER;
        int torn = NEVER;
        int scraps;
        int reports;
        int bills;
        List<Line> lines = new ArrayList<>();
    }

    static final class Person {
        int rank;
        int lostBy = -1;
        int back;
    }

    record Seen(int person, int place, int from, int to, int came, int[] fell) { }

    record Report(int sheet, int cover, int person, int act, int place, int day, int written, int came, int[] fell) { }

    record Bill(int sheet, int cover, int coins, int came, int[] fell) { }

    static final class Reader {
        int person;
        boolean press;
        int sheet = -1;
        int askedOn;
        int asked;
    }

    static final class Finding {
        int person;
        int cover;
        int told;
        boolean appealed;
        int granted = NEVER;
    }

    int now;
    int why = -1;
    String tape = "";
    final List<Integer> sacks = new ArrayList<>();
    final List<Scrap> scraps = new ArrayList<>();
    final List<Sheet> sheets = new ArrayList<>();
    final List<Person> persons = new ArrayList<>();
    final List<Seen> seens = new ArrayList<>();
    final List<Integer> covers = new ArrayList<>();
    final List<Report> reports = new ArrayList<>();
    final List<Bill> bills = new ArrayList<>();
    final List<ModelLaw> laws = new ArrayList<>();
    final List<Reader> readers = new ArrayList<>();
    final List<Finding> findings = new ArrayList<>();
    final List<int[]> askers = new ArrayList<>();
    final int[] premiums = new int[32];
    List<Integer> bestOrder = List.of();
    long bestCost;
    List<List<Integer>> laidWays = List.of();
    int laidBest;

    static boolean in(long number, long least, long most) {
        return number >= least && number <= most;
    }

    static boolean has(List<?> list, int k) {
        return k >= 0 && k < list.size();
    }

    boolean clock(int day) {
        if (!in(day, now, 3999)) {
            return false;
        }
        now = day;
        return true;
    }

    int sack(int hours) {
        if (sacks.size() == 20 || !in(hours, 1, 999)) {
            return -1;
        }
        sacks.add(hours);
        return sacks.size() - 1;
    }

    int scrap(int sack, int hand, long edges) {
        if (scraps.size() == 200 || !has(sacks, sack) || !in(hand, 0, 15)) {
            return -1;
        }
        Scrap scrap = new Scrap();
        scrap.sack = sack;
        scrap.hand = hand;
        scrap.edges = new int[] {(short) (edges >> 48), (short) (edges >> 32), (short) (edges >> 16), (short) edges};
        scraps.add(scrap);
        return scraps.size() - 1;
    }

    int scraps(int k, int what) {
        if (!has(scraps, k) || !in(what, 0, 6)) {
            return -40000;
        }
        Scrap s = scraps.get(k);
        return what == 0 ? s.sack : what == 1 ? s.hand : what == 6 ? s.sheet : s.edges[what - 2];
    }

    int fits(int a, int b, int how) {
        if (!has(scraps, a) || !has(scraps, b) || a == b || how != 0 && how != 1) {
            return -1;
        }
        Scrap one = scraps.get(a);
        Scrap other = scraps.get(b);
        int x = one.edges[how == 0 ? 1 : 2];
        int y = other.edges[how == 0 ? 3 : 0];
        return x != 0 && x != -32768 && y != -32768 && x == -y && one.hand == other.hand ? 1 : 0;
    }

    private int fitsOf(List<Integer> way, int columns) {
        int fits = 0;
        for (int i = 0; i < way.size(); i++) {
            if (i % columns != 0) {
                fits += fits(way.get(i - 1), way.get(i), 0);
            }
            if (i >= columns) {
                fits += fits(way.get(i - columns), way.get(i), 1);
            }
        }
        return fits;
    }

    private void ways(List<Integer> way, List<Integer> rest, int columns) {
        if (rest.isEmpty()) {
            int fits = fitsOf(way, columns);
            if (fits > laidBest) {
                laidBest = fits;
                laidWays = new ArrayList<>();
            }
            if (fits == laidBest) {
                laidWays.add(new ArrayList<>(way));
            }
            return;
        }
        for (int i = 0; i < rest.size(); i++) {
            List<Integer> less = new ArrayList<>(rest);
            way.add(less.remove(i));
            ways(way, less, columns);
            way.remove(way.size() - 1);
        }
    }

    int lay(int sack, int columns, int rows) {
        List<Integer> loose = new ArrayList<>();
        for (int i = 0; i < scraps.size(); i++) {
            if (scraps.get(i).sack == sack && scraps.get(i).sheet == -1) {
                loose.add(i);
            }
        }
        if (!has(sacks, sack) || loose.isEmpty() || loose.size() > 8 || columns < 1 || rows < 1
            || (long) columns * rows != loose.size()) {
            return -1;
        }
        laidBest = -1;
        ways(new ArrayList<>(), loose, columns);
        return laidBest;
    }

    int laid(int way, int k) {
        if (laidWays.isEmpty()) {
            return -1;
        }
        if (k == -1) {
            return laidWays.size();
        }
        return in(way, 0, 1) && has(laidWays, way) && has(laidWays.get(way), k) ? laidWays.get(way).get(k) : -1;
    }

    int judged(int columns, int rows, long packed) {
        if (!in(columns, 1, 8) || !in(rows, 1, 8) || columns * rows > 8) {
            return -1;
        }
        List<Integer> way = new ArrayList<>();
        for (int i = 0; i < columns * rows; i++) {
            int scrap = (int) (packed >> 8 * i) & 255;
            if (!has(scraps, scrap) || way.contains(scrap)) {
                return -1;
            }
            way.add(scrap);
        }
        return fitsOf(way, columns);
    }

    int take(int way) {
        if (!in(way, 0, 1) || !has(laidWays, way) || sheets.size() == 200
            || laidWays.get(way).stream().anyMatch(s -> scraps.get(s).sheet != -1)) {
            return -1;
        }
        int number = sheet();
        laidWays.get(way).forEach(s -> scraps.get(s).sheet = number);
        sheets.get(number).scraps = laidWays.get(way).size();
        return number;
    }

    int sheet() {
        if (sheets.size() == 200) {
            return -1;
        }
        Sheet sheet = new Sheet();
        sheet.came = now;
        sheets.add(sheet);
        return sheets.size() - 1;
    }

    private boolean whole(int sheet) {
        return has(sheets, sheet) && sheets.get(sheet).torn == NEVER;
    }

    int tear(int sheet) {
        if (!whole(sheet)) {
            return -1;
        }
        sheets.get(sheet).torn = now;
        reports.stream().filter(r -> r.sheet() == sheet).forEach(r -> r.fell()[0] = Math.min(r.fell()[0], now));
        bills.stream().filter(b -> b.sheet() == sheet).forEach(b -> b.fell()[0] = Math.min(b.fell()[0], now));
        int loose = 0;
        for (Scrap scrap : scraps) {
            if (scrap.sheet == sheet) {
                scrap.sheet = -1;
                loose++;
            }
        }
        return loose;
    }

    boolean open(int sheet) {
        if (!whole(sheet) || sheets.get(sheet).open != NEVER) {
            return false;
        }
        sheets.get(sheet).open = now;
        return true;
    }

    int sheets(int k, int what) {
        if (!has(sheets, k) || !in(what, 0, 6)) {
            return -1;
        }
        Sheet s = sheets.get(k);
        int answer = new int[] {s.came, s.open, s.torn, s.scraps, s.lines.size(), s.reports, s.bills}[what];
        return answer == NEVER ? -1 : answer;
    }

    int person(int rank) {
        if (persons.size() == 60 || !in(rank, -1, 99)) {
            return -1;
        }
        Person person = new Person();
        person.rank = rank;
        persons.add(person);
        return persons.size() - 1;
    }

    int seen(int person, int place, int from, int to) {
        if (seens.size() == 400 || !has(persons, person) || !in(place, 0, 99) || !in(from, 0, 9999) || !in(to, 0, 9999)
            || from > to) {
            return -1;
        }
        seens.add(new Seen(person, place, from, to, now, new int[] {NEVER}));
        return seens.size() - 1;
    }

    boolean unsee(int seen) {
        if (!has(seens, seen) || seens.get(seen).fell()[0] != NEVER) {
            return false;
        }
        seens.get(seen).fell()[0] = now;
        return true;
    }

    int cover(int officer) {
        if (covers.size() == 40 || !in(officer, 0, 9)) {
            return -1;
        }
        covers.add(officer);
        return covers.size() - 1;
    }

    int report(int sheet, int cover, int person, int act, int place, int day, int written) {
        if (reports.size() == 200 || !whole(sheet) || !has(covers, cover) || !has(persons, person) || !in(act, 0, 31)
            || !in(place, 0, 99) || !in(day, 0, 9999) || !in(written, 0, 9999) || written < day) {
            return -1;
        }
        reports.add(new Report(sheet, cover, person, act, place, day, written, now, new int[] {NEVER}));
        sheets.get(sheet).reports++;
        return reports.size() - 1;
    }

    boolean fall(int report) {
        if (!has(reports, report) || reports.get(report).fell()[0] != NEVER) {
            return false;
        }
        reports.get(report).fell()[0] = now;
        return true;
    }

    private boolean isKnown(int came, int fell, int open, int day) {
        return came <= day && open <= day && day < fell;
    }

    private boolean isKnown(Report r, int day) {
        return isKnown(r.came(), r.fell()[0], sheets.get(r.sheet()).open, day);
    }

    private boolean isKnown(Bill b, int day) {
        return isKnown(b.came(), b.fell()[0], sheets.get(b.sheet()).open, day);
    }

    int known(int report, int day) {
        return !has(reports, report) || !in(day, 0, 3999) ? -1 : isKnown(reports.get(report), day) ? 1 : 0;
    }

    private boolean elsewhere(int person, Report r, int day) {
        Set<Integer> places = new HashSet<>();
        for (Seen s : seens) {
            if (s.person() == person && in(r.day(), s.from(), s.to()) && isKnown(s.came(), s.fell()[0], 0, day)) {
                places.add(s.place());
            }
        }
        return !places.isEmpty() && !places.contains(r.place());
    }

    private boolean rules(Report r, int person, int day) {
        return r.person() == person || elsewhere(person, r, day);
    }

    int out(int cover, int person, int day) {
        if (!has(covers, cover) || !has(persons, person) || !in(day, 0, 3999)) {
            return -2;
        }
        for (int i = 0; i < reports.size(); i++) {
            Report r = reports.get(i);
            if (r.cover() == cover && isKnown(r, day) && rules(r, person, day)) {
                return i;
            }
        }
        return -1;
    }

    private List<Integer> candidates(List<Report> by, int day) {
        List<Integer> left = new ArrayList<>();
        for (int p = 0; p < persons.size(); p++) {
            int person = p;
            if (by.stream().noneMatch(r -> rules(r, person, day))) {
                left.add(p);
            }
        }
        return left;
    }

    private List<Report> knownBy(int cover, int day) {
        return reports.stream().filter(r -> r.cover() == cover && isKnown(r, day)).toList();
    }

    int candidate(int cover, int day, int k) {
        if (!has(covers, cover) || !in(day, 0, 3999)) {
            return -1;
        }
        List<Integer> left = candidates(knownBy(cover, day), day);
        return k == -1 ? left.size() : has(left, k) ? left.get(k) : -1;
    }

    int sure(int cover, int day) {
        if (!has(covers, cover) || !in(day, 0, 3999) || knownBy(cover, day).isEmpty()) {
            return -1;
        }
        List<Integer> left = candidates(knownBy(cover, day), day);
        return left.size() == 1 ? left.get(0) : -1;
    }

    int next(int cover) {
        if (!has(covers, cover)) {
            return -1;
        }
        List<Report> by = knownBy(cover, now);
        int before = candidates(by, now).size();
        int best = -1;
        int far = NEVER;
        for (int i = 0; i < sheets.size(); i++) {
            int sheet = i;
            if (sheets.get(i).open != NEVER) {
                continue;
            }
            List<Report> would = new ArrayList<>(by);
            reports.stream().filter(r -> r.sheet() == sheet && r.cover() == cover && r.fell()[0] == NEVER)
                .forEach(would::add);
            int after = candidates(would, now).size();
            if (after < before && Math.abs(2 * after - before) < far) {
                best = i;
                far = Math.abs(2 * after - before);
            }
        }
        return best;
    }

    private boolean nobody(Report r, int day) {
        for (int p = 0; p < persons.size(); p++) {
            if (p != r.person() && !elsewhere(p, r, day)) {
                return false;
            }
        }
        return true;
    }

    private int copied(int report, int day) {
        Report late = reports.get(report);
        int found = -1;
        for (int i = 0; i < reports.size(); i++) {
            Report r = reports.get(i);
            if (r.cover() != late.cover() && r.act() == late.act() && r.person() == late.person()
                && r.place() == late.place() && r.day() == late.day() && isKnown(r, day)
                && (r.written() < late.written() || r.written() == late.written() && i < report)
                && (found == -1 || r.written() < reports.get(found).written())) {
                found = i;
            }
        }
        return found;
    }

    int made(int report, int day, int what) {
        if (!has(reports, report) || !in(day, 0, 3999) || !in(what, 0, 1)) {
            return -2;
        }
        return what == 1 ? copied(report, day) : nobody(reports.get(report), day) ? 1 : 0;
    }

    int premium(int act, int coins) {
        if (!in(act, 0, 31) || !in(coins, 0, 999)) {
            return -1;
        }
        int was = premiums[act];
        premiums[act] = coins;
        return was;
    }

    int bill(int sheet, int cover, int coins, int day) {
        if (bills.size() == 200 || !whole(sheet) || !has(covers, cover) || !in(coins, 1, 9999) || !in(day, 0, 9999)) {
            return -1;
        }
        bills.add(new Bill(sheet, cover, coins, now, new int[] {NEVER}));
        sheets.get(sheet).bills++;
        return bills.size() - 1;
    }

    int account(int officer, int day) {
        if (!in(officer, 0, 9) || !in(day, 0, 3999)) {
            return -2000000000;
        }
        int coins = 0;
        for (Bill b : bills) {
            coins += covers.get(b.cover()) == officer && isKnown(b, day) ? b.coins() : 0;
        }
        for (int i = 0; i < reports.size(); i++) {
            Report r = reports.get(i);
            if (covers.get(r.cover()) == officer && isKnown(r, day) && copied(i, day) == -1 && !nobody(r, day)) {
                coins -= premiums[r.act()];
            }
        }
        return coins;
    }

    int feed(int a, int b, int c, int d, int e) {
        if (tape.length() > 380) {
            return -1;
        }
        for (int four : new int[] {a, b, c, d, e}) {
            for (int shift = 24; shift >= 0; shift -= 8) {
                tape += (char) (four >> shift & 255);
            }
        }
        return tape.length();
    }

    int end(int n) {
        if (n < 0 || n > tape.length()) {
            return -1;
        }
        tape = tape.substring(0, n);
        return n;
    }

    int law(int day) {
        if (laws.size() == 20 || !in(day, now, 3999)) {
            return -1;
        }
        String text = tape;
        tape = "";
        try {
            laws.add(new ModelLaw(text, day));
        } catch (ModelLaw.Fault fault) {
            return -2 - fault.code;
        }
        return laws.size() - 1;
    }

    int force(int day) {
        int found = -1;
        for (int i = 0; i < laws.size() && in(day, 0, 3999); i++) {
            if (laws.get(i).from <= day && (found < 0 || laws.get(found).from <= laws.get(i).from)) {
                found = i;
            }
        }
        return found;
    }

    int line(int sheet, long named, int length, int word) {
        if (!whole(sheet) || sheets.get(sheet).lines.size() == 20 || named < 0 || named >> persons.size() != 0
            || !in(length, 1, 200) || !in(word, 0, 999999)) {
            return -1;
        }
        Line line = new Line();
        line.named = named;
        line.length = length;
        line.word = word;
        sheets.get(sheet).lines.add(line);
        return sheets.get(sheet).lines.size() - 1;
    }

    int reader(int person, boolean press) {
        if (readers.size() == 30 || person != -1 && !has(persons, person)) {
            return -1;
        }
        Reader reader = new Reader();
        reader.person = person;
        reader.press = press;
        readers.add(reader);
        return readers.size() - 1;
    }

    private Map<String, Long> wordsOf(Reader r, Sheet s) {
        Map<String, Long> words = new HashMap<>();
        words.put("age", (long) now - s.came);
        words.put("lines", (long) s.lines.size());
        words.put("press", r.press ? 1L : 0L);
        words.put("waits", r.sheet == -1 ? 0L : now - r.askedOn);
        words.put("asked", r.sheet == -1 ? (long) r.asked : r.asked - 1L);
        words.put("day", (long) now);
        return words;
    }

    private int clauseFor(Reader r, Sheet s, Line line) {
        Map<String, Long> words = wordsOf(r, s);
        Set<Integer> sure = new HashSet<>();
        for (int c = 0; c < covers.size(); c++) {
            sure.add(sure(c, now));
        }
        long third = 0;
        long source = 0;
        for (int p = 0; p < persons.size(); p++) {
            if ((line.named >> p & 1) != 0 && p != r.person) {
                third++;
                source += sure.contains(p) ? 1 : 0;
            }
        }
        words.put("self", r.person != -1 && (line.named >> r.person & 1) != 0 ? 1L : 0L);
        words.put("third", third);
        words.put("source", source);
        return force(now) == -1 ? -1 : laws.get(force(now)).first("read", words);
    }

    private int verb(int clause) {
        return clause == -1 ? 2 : laws.get(force(now)).clauses.get(clause).number();
    }

    int may(int reader, int sheet, int line) {
        if (!has(readers, reader) || !whole(sheet) || !has(sheets.get(sheet).lines, line)) {
            return -1;
        }
        why = clauseFor(readers.get(reader), sheets.get(sheet), sheets.get(sheet).lines.get(line));
        return verb(why);
    }

    boolean ask(int reader, int sheet) {
        if (!has(readers, reader) || !whole(sheet) || readers.get(reader).sheet != -1) {
            return false;
        }
        Reader r = readers.get(reader);
        r.sheet = sheet;
        r.askedOn = now;
        r.asked++;
        return true;
    }

    long turn(int reader) {
        if (!has(readers, reader) || readers.get(reader).sheet == -1) {
            return Long.MIN_VALUE;
        }
        Reader r = readers.get(reader);
        return force(now) == -1 ? 0 : laws.get(force(now)).turn(wordsOf(r, sheets.get(r.sheet)));
    }

    int call() {
        List<Integer> waiting = new ArrayList<>();
        for (int i = 0; i < readers.size(); i++) {
            if (readers.get(i).sheet != -1 && whole(readers.get(i).sheet)
                && sheets.get(readers.get(i).sheet).open != NEVER) {
                waiting.add(i);
            }
        }
        waiting.sort((a, b) -> turn(a) != turn(b) ? Long.compare(turn(b), turn(a))
            : readers.get(a).askedOn != readers.get(b).askedOn ? readers.get(a).askedOn - readers.get(b).askedOn : a - b);
        if (waiting.isEmpty()) {
            return -1;
        }
        int called = waiting.get(0);
        Sheet s = sheets.get(readers.get(called).sheet);
        for (Line line : s.lines) {
            int verb = verb(clauseFor(readers.get(called), s, line));
            if (verb == 0) {
                line.words.add(called);
            } else if (verb == 1) {
                line.lengths.add(called);
            }
        }
        readers.get(called).sheet = -1;
        return called;
    }

    int told(int reader, int sheet, int line) {
        if (!has(readers, reader) || !has(sheets, sheet) || !has(sheets.get(sheet).lines, line)) {
            return -1;
        }
        Line l = sheets.get(sheet).lines.get(line);
        return l.words.contains(reader) ? l.word : l.lengths.contains(reader) ? -2 - l.length : -1;
    }

    int together(int reader, int cover, int sheet) {
        if (!has(readers, reader) || !has(covers, cover) || sheet != -1 && !has(sheets, sheet)) {
            return -1;
        }
        List<Report> by = new ArrayList<>();
        for (Report r : reports) {
            List<Line> lines = sheets.get(r.sheet()).lines;
            boolean told = !lines.isEmpty() && lines.stream().allMatch(l -> l.words.contains(reader));
            if (r.cover() == cover && (isKnown(r, now) && told || r.sheet() == sheet && r.fell()[0] == NEVER)) {
                by.add(r);
            }
        }
        return candidates(by, now).size();
    }

    int finding(int person, int cover) {
        if (findings.size() == 60 || !has(persons, person) || !has(covers, cover)) {
            return -1;
        }
        Finding finding = new Finding();
        finding.person = person;
        finding.cover = cover;
        finding.told = now;
        findings.add(finding);
        return findings.size() - 1;
    }

    private long billsTo(int cover, int day) {
        return bills.stream().filter(b -> b.cover() == cover && isKnown(b, day)).count();
    }

    int need(int cover, int day) {
        if (!has(covers, cover) || !in(day, 0, 3999)) {
            return -1;
        }
        int force = force(day);
        Map<String, Long> words = new HashMap<>();
        words.put("reports", (long) knownBy(cover, day).size());
        words.put("bills", billsTo(cover, day));
        words.put("day", (long) day);
        int clause = force == -1 ? -1 : laws.get(force).first("need", words);
        return clause == -1 ? 99 : laws.get(force).clauses.get(clause).number();
    }

    int stands(int finding, int day) {
        if (!has(findings, finding) || !in(day, 0, 3999) || day < findings.get(finding).told) {
            return -1;
        }
        Finding f = findings.get(finding);
        boolean candidate = candidates(knownBy(f.cover, day), day).contains(f.person);
        long papers = knownBy(f.cover, day).size() + billsTo(f.cover, day);
        return candidate && papers >= need(f.cover, day) && day < f.granted ? 1 : 0;
    }

    boolean appeal(int finding, boolean granted) {
        if (!has(findings, finding) || findings.get(finding).appealed) {
            return false;
        }
        findings.get(finding).appealed = true;
        findings.get(finding).granted = granted ? now : NEVER;
        return true;
    }

    boolean lose(int finding) {
        if (!has(findings, finding) || stands(finding, now) != 1) {
            return false;
        }
        Person person = persons.get(findings.get(finding).person);
        if (person.rank == -1 || person.lostBy != -1) {
            return false;
        }
        person.lostBy = finding;
        return true;
    }

    int back() {
        int given = 0;
        for (Person person : persons) {
            if (person.lostBy != -1 && stands(person.lostBy, now) == 0) {
                person.lostBy = -1;
                person.back++;
                given++;
            }
        }
        return given;
    }

    int persons(int k, int what) {
        if (!has(persons, k) || !in(what, 0, 2)) {
            return -2;
        }
        Person p = persons.get(k);
        return what == 0 ? (p.lostBy == -1 ? p.rank : -1) : what == 1 ? p.lostBy : p.back;
    }

    int asker(int needs, int weight) {
        if (askers.size() == 12 || !in(needs, 1, 511) || !in(weight, 1, 99)) {
            return -1;
        }
        askers.add(new int[] {needs, weight});
        return askers.size();
    }

    private void orders(List<Integer> list, List<Integer> order) {
        if (order.size() == list.size()) {
            long cost = 0;
            for (int[] asker : askers) {
                int hours = 0;
                int last = 0;
                for (int sack : order) {
                    hours += sacks.get(sack);
                    last = (asker[0] >> list.indexOf(sack) & 1) != 0 ? hours : last;
                }
                cost += (long) asker[1] * last;
            }
            if (bestCost == -1 || cost < bestCost) {
                bestCost = cost;
                bestOrder = new ArrayList<>(order);
            }
            return;
        }
        for (int sack : new TreeSet<>(list)) {
            if (!order.contains(sack)) {
                order.add(sack);
                orders(list, order);
                order.remove(order.size() - 1);
            }
        }
    }

    long order(int n, long packed) {
        if (!in(n, 1, 9)) {
            return -1;
        }
        List<Integer> list = new ArrayList<>();
        for (int i = 0; i < n; i++) {
            int sack = (int) (packed >> 5 * i) & 31;
            if (!has(sacks, sack) || list.contains(sack)) {
                return -1;
            }
            list.add(sack);
        }
        if (askers.stream().anyMatch(a -> a[0] >= 1 << n)) {
            return -1;
        }
        bestCost = -1;
        orders(list, new ArrayList<>());
        askers.clear();
        return bestCost;
    }

    int ordered(int k) {
        return has(bestOrder, k) ? bestOrder.get(k) : -1;
    }

    int count(int what) {
        if (!in(what, 0, 15)) {
            return -1;
        }
        int loose = (int) scraps.stream().filter(s -> s.sheet == -1).count();
        int waiting = (int) readers.stream().filter(r -> r.sheet != -1).count();
        return Arrays.asList(now, sacks.size(), scraps.size(), loose, sheets.size(), persons.size(), seens.size(),
            covers.size(), reports.size(), bills.size(), laws.size(), readers.size(), waiting, findings.size(),
            tape.length(), askers.size()).get(what);
    }
}
