import java.nio.charset.StandardCharsets;
import java.nio.file.Files;
import java.nio.file.Path;

/** The examples of README.md: they stand here as they stand there, and answer what is said of them. */
public final class ReadmeTest {
    private static final Due due = new Due();

    private ReadmeTest() {
    }

    public static void main(String[] args) throws Exception {
        sameLines();
        examples();
        due.end();
    }

    /** Each line of README.md's Java stands in this file, so that what is run is what is shown. */
    private static void sameLines() throws Exception {
        String own = Files.readString(Path.of("src/test/java/ReadmeTest.java"), StandardCharsets.ISO_8859_1);
        boolean shown = false;
        int lines = 0;
        for (String line : Files.readAllLines(Path.of("README.md"), StandardCharsets.ISO_8859_1)) {
            if (line.startsWith("```")) {
                shown = line.equals("```java");
            } else if (shown) {
                lines++;
                due.yes("this test has the line: " + line, own.contains("\n        " + line + "\n"));
            }
        }
        due.yes("there are lines", lines > 30);
    }

    private static void examples() {
        FilesOpened house = new FilesOpened();
        int sack = house.sack(5);                          // a sack with 5 hours of work
        int left = house.scrap(sack, 1, 7L << 32);         // of hand 1; its right edge has the code 7
        int right = house.scrap(sack, 1, -7L & 65535);     // of hand 1; its left edge has the code -7
        int fits = house.lay(sack, 2, 1);                  // laid in two columns and one row: 1 fits
        int sheet = house.take(0);                         // the best way becomes a sheet

        int told = house.person(FilesOpened.NONE);         // a person without an office
        int clerk = house.person(4);                       // one with an office of rank 4
        int cover = house.cover(2);                        // a cover name of officer 2
        int report = house.report(sheet, cover, told, 3, 8, 100, 101); // act 3, place 8, on old day 100, written on 101
        boolean open = house.open(sheet);                  // not known until a hand opens it
        int sure = house.sure(cover, 0);                   // as known on day 0: the clerk

        String text = "read let if self=1; read black if third>0; need 1 if reports>=1; turn waits+1";
        int[] fours = new int[(text.length() + 19) / 20 * 5];
        for (int i = 0; i < text.length(); i++) {
            fours[i / 4] |= text.charAt(i) << 24 - i % 4 * 8;
        }
        for (int i = 0; i < fours.length; i += 5) {
            house.feed(fours[i], fours[i + 1], fours[i + 2], fours[i + 3], fours[i + 4]);
        }
        house.end(text.length());
        int law = house.law(0);                            // it binds from day 0 on; below -2: -2 less its fault

        int line = house.line(sheet, 1L << clerk, 20, 4711); // a line that names the clerk, 20 long, with the word 4711
        int reader = house.reader(clerk, false);
        boolean waits = house.ask(reader, sheet);
        int called = house.call();                         // the reader whose turn it is
        int word = house.told(reader, sheet, line);        // 4711, as it names himself
        int finding = house.finding(clerk, cover);
        boolean lost = house.lose(finding);                // the finding stands, and his office is lost
        boolean fell = house.fall(report);                 // what the finding leaned on
        int given = house.back();                          // 1: the office is given back

        int other = house.sack(2);
        int asker = house.asker(3, 10);                    // needs both of the listed sacks; weighs 10
        house.asker(2, 1);                                 // needs the second alone
        long cost = house.order(2, other << 5 | sack);     // 72: five bits each, the first one lowest
        int first = house.ordered(0);                      // the sack to open first

        due.is("sack", sack, 0);
        due.is("left", left, 0);
        due.is("right", right, 1);
        due.is("fits", fits, 1);
        due.is("sheet", sheet, 0);
        due.is("told", told, 0);
        due.is("report", report, 0);
        due.yes("open", open);
        due.is("sure", sure, clerk);
        due.is("law", law, 0);
        due.yes("waits", waits);
        due.is("called", called, reader);
        due.is("word", word, 4711);
        due.yes("lost", lost);
        due.yes("fell", fell);
        due.is("given", given, 1);
        due.is("asker", asker, 1);
        due.is("cost", cost, 72);
        due.is("first", first, other);
    }
}
