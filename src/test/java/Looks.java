import java.util.ArrayList;
import java.util.LinkedHashMap;
import java.util.List;
import java.util.Map;
import java.util.function.BiConsumer;
import java.util.function.Consumer;

/** All that can be seen of a house. Each look has a house of its own, as one is good for 512 calls only. */
final class Looks {
    private static final int[] DAYS = {0, 2, 5, 10, 3999};
    private static final Map<String, BiConsumer<FilesOpened, List<Long>>> ALL = new LinkedHashMap<>();

    static {
        ALL.put("counts", Looks::counts);
        ALL.put("scraps", Looks::scraps);
        ALL.put("laying", Looks::laying);
        ALL.put("take(0)", (x, seen) -> taking(x, seen, 0));
        ALL.put("take(1)", (x, seen) -> taking(x, seen, 1));
        ALL.put("sheets", Looks::sheets);
        ALL.put("evidence", Looks::evidence);
        ALL.put("made", Looks::made);
        ALL.put("premiums", Looks::premiums);
        ALL.put("laws", Looks::laws);
        ALL.put("the tape", Looks::tape);
        ALL.put("readers", Looks::readers);
        ALL.put("together", Looks::together);
        ALL.put("calls", Looks::calls);
        ALL.put("findings", Looks::findings);
        ALL.put("back()", Looks::back);
        ALL.put("falls", Looks::falls);
        ALL.put("order", Looks::order);
        ALL.put("what comes next", Looks::next);
    }

    private Looks() {
    }

    /** What all looks see of the house that a story tells of. */
    static Map<String, List<Long>> at(Consumer<FilesOpened> story) {
        Map<String, List<Long>> all = new LinkedHashMap<>();
        for (Map.Entry<String, BiConsumer<FilesOpened, List<Long>>> look : ALL.entrySet()) {
            FilesOpened x = new FilesOpened();
            story.accept(x);
            List<Long> seen = new ArrayList<>();
            look.getValue().accept(x, seen);
            all.put(look.getKey(), seen);
        }
        return all;
    }

    /** Tells each look at which the call of that name has changed something. */
    static void alike(Due due, String call, Map<String, List<Long>> before, Map<String, List<Long>> after) {
        for (String look : before.keySet()) {
            due.yes(call + " left " + look, after.get(look).equals(before.get(look)));
        }
    }

    private static void add(List<Long> seen, long answer) {
        seen.add(answer);
    }

    private static void add(List<Long> seen, boolean answer) {
        seen.add(answer ? 1L : 0L);
    }

    private static void counts(FilesOpened x, List<Long> seen) {
        add(seen, x.why());
        for (int what = -1; what <= 16; what++) {
            add(seen, x.count(what));
        }
    }

    private static void scraps(FilesOpened x, List<Long> seen) {
        for (int k = -1; k <= 6; k++) {
            for (int what = 0; what <= 6; what++) {
                add(seen, x.scraps(k, what));
            }
        }
        for (int a = 0; a <= 5; a++) {
            for (int b = 0; b <= 5; b++) {
                add(seen, x.fits(a, b, 0));
                add(seen, x.fits(a, b, 1));
            }
        }
        add(seen, x.judged(2, 1, Due.packed(8, 0, 1)));
        add(seen, x.judged(2, 3, Due.packed(8, 2, 4, 0, 1, 3, 5)));
    }

    private static void laying(FilesOpened x, List<Long> seen) {
        for (int way = -1; way <= 2; way++) {
            for (int k = -2; k <= 8; k++) {
                add(seen, x.laid(way, k));
            }
        }
    }

    private static void taking(FilesOpened x, List<Long> seen, int way) {
        add(seen, x.take(way));
        for (int k = 0; k <= 6; k++) {
            add(seen, x.scraps(k, 6));
        }
    }

    private static void sheets(FilesOpened x, List<Long> seen) {
        for (int k = -1; k <= 5; k++) {
            for (int what = 0; what <= 6; what++) {
                add(seen, x.sheets(k, what));
            }
        }
        for (int report = 0; report <= 5; report++) {
            for (int day = 0; day <= 12; day++) {
                add(seen, x.known(report, day));
            }
        }
    }

    private static void evidence(FilesOpened x, List<Long> seen) {
        for (int cover = 0; cover <= 2; cover++) {
            for (int day : DAYS) {
                for (int k = -1; k <= 4; k++) {
                    add(seen, x.candidate(cover, day, k));
                    add(seen, x.out(cover, k, day));
                }
                add(seen, x.sure(cover, day));
            }
            add(seen, x.next(cover));
        }
    }

    private static void made(FilesOpened x, List<Long> seen) {
        for (int day : DAYS) {
            for (int report = 0; report <= 5; report++) {
                add(seen, x.made(report, day, 0));
                add(seen, x.made(report, day, 1));
            }
            for (int officer = 0; officer <= 9; officer++) {
                add(seen, x.account(officer, day));
            }
        }
    }

    private static void premiums(FilesOpened x, List<Long> seen) {
        for (int act = 0; act <= 31; act++) {
            add(seen, x.premium(act, 1));
        }
    }

    private static void laws(FilesOpened x, List<Long> seen) {
        for (int day : new int[] {0, 5, 7, 8, 10, 11, 12, 19, 20, 3998, 3999}) {
            add(seen, x.force(day));
            for (int cover = 0; cover <= 3; cover++) {
                add(seen, x.need(cover, day));
            }
        }
    }

    /** What a law that is read from the tape says tells what was on it. */
    private static void tape(FilesOpened x, List<Long> seen) {
        int day = x.count(0);
        add(seen, x.law(day));
        add(seen, x.force(day));
        add(seen, x.count(14));
        add(seen, x.turn(1));
        add(seen, x.need(0, day));
    }

    private static void readers(FilesOpened x, List<Long> seen) {
        for (int reader = 0; reader <= 4; reader++) {
            add(seen, x.turn(reader));
            for (int sheet = 0; sheet <= 5; sheet++) {
                for (int line = 0; line <= 2; line++) {
                    add(seen, x.told(reader, sheet, line));
                    add(seen, x.may(reader, sheet, line));
                    add(seen, x.why());
                }
            }
        }
    }

    private static void together(FilesOpened x, List<Long> seen) {
        for (int reader = 0; reader <= 3; reader++) {
            for (int cover = 0; cover <= 3; cover++) {
                for (int sheet = -1; sheet <= 5; sheet++) {
                    add(seen, x.together(reader, cover, sheet));
                }
            }
        }
    }

    private static void calls(FilesOpened x, List<Long> seen) {
        add(seen, x.open(2));
        add(seen, x.open(4));
        for (int i = 0; i <= 4; i++) {
            add(seen, x.call());
        }
        for (int reader = 0; reader <= 4; reader++) {
            for (int sheet = 0; sheet <= 4; sheet++) {
                add(seen, x.told(reader, sheet, 0));
                add(seen, x.told(reader, sheet, 1));
            }
        }
    }

    private static void findings(FilesOpened x, List<Long> seen) {
        for (int finding = 0; finding <= 3; finding++) {
            for (int day = 0; day <= 21; day++) {
                add(seen, x.stands(finding, day));
            }
        }
        for (int person = 0; person <= 4; person++) {
            for (int what = 0; what <= 2; what++) {
                add(seen, x.persons(person, what));
            }
        }
    }

    private static void back(FilesOpened x, List<Long> seen) {
        add(seen, x.appeal(0, true));
        add(seen, x.back());
        for (int person = 0; person <= 4; person++) {
            for (int what = 0; what <= 2; what++) {
                add(seen, x.persons(person, what));
            }
        }
    }

    private static void falls(FilesOpened x, List<Long> seen) {
        for (int i = 0; i <= 5; i++) {
            add(seen, x.unsee(i));
            add(seen, x.fall(i));
            add(seen, x.lose(i));
            add(seen, x.appeal(i, false));
            add(seen, x.ask(i, 0));
            add(seen, x.open(i));
        }
        for (int i = 0; i <= 5; i++) {
            add(seen, x.tear(i));
        }
    }

    private static void order(FilesOpened x, List<Long> seen) {
        for (int k = -1; k <= 9; k++) {
            add(seen, x.ordered(k));
        }
        add(seen, x.order(3, Due.packed(5, 2, 0, 1)));
        for (int k = -1; k <= 9; k++) {
            add(seen, x.ordered(k));
        }
    }

    private static void next(FilesOpened x, List<Long> seen) {
        add(seen, x.sack(1));
        add(seen, x.scrap(0, 0, 0));
        add(seen, x.sheet());
        add(seen, x.person(1));
        add(seen, x.seen(0, 0, 0, 0));
        add(seen, x.cover(0));
        add(seen, x.report(1, 0, 0, 0, 0, 0, 0));
        add(seen, x.bill(1, 0, 1, 0));
        for (int sheet = 0; sheet <= 5; sheet++) {
            add(seen, x.line(sheet, 0, 1, 0));
        }
        add(seen, x.reader(-1, false));
        add(seen, x.finding(0, 0));
        add(seen, x.asker(1, 1));
        x.end(0);
        add(seen, Due.law(x, "turn 1"));
    }
}
