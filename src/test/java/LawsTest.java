/** Promises 30 to 33: the tape, laws with their language and faults, which law is in force. */
public final class LawsTest {
    private static final Due due = new Due();

    public static void main(String[] args) {
        tape();
        telling();
        force();
        places();
        numbers();
        depth();
        many();
        clauses();
        sums();
        tests();
        due.end();
    }

    private static void tape() {
        FilesOpened x = new FilesOpened();
        due.is("end(0)", x.end(0), 0);
        due.is("end(1)", x.end(1), -1);
        due.is("end(-1)", x.end(-1), -1);
        for (int i = 1; i <= 20; i++) {
            due.is("feed " + i, x.feed(0, 0, 0, 0, 0), 20 * i);
        }
        due.is("feed 21", x.feed(0, 0, 0, 0, 0), -1);
        due.is("end(381)", x.end(381), 381);
        due.is("feed at 381", x.feed(0, 0, 0, 0, 0), -1);
        due.is("bytes", x.count(14), 381);
        due.is("end(380)", x.end(380), 380);
        due.is("end(381) again", x.end(381), -1);
        due.is("feed at 380", x.feed(0, 0, 0, 0, 0), 400);
        x.end(3);
        due.is("behind what it has", x.feed(0, 0, 0, 0, 0), 23);
        x.end(0);
        due.is("turn 0", x.feed(0x7475726e, 0x20302020, 0x20202020, 0x20202020, 0x20202020), 20);
        due.is("highest byte first", x.law(0), 0);
    }

    private static void telling() {
        FilesOpened x = new FilesOpened();
        x.clock(5);
        Due.write(x, "turn 1");
        due.is("ahead of now", x.law(4), -1);
        due.is("behind the last day", x.law(4000), -1);
        due.is("nothing happened", x.count(14), 6);
        due.is("law", x.law(3999), 0);
        due.is("the tape is empty", x.count(14), 0);
        due.is("an empty text", x.law(5), Due.fault(0, 0));
        due.is("a fault", Due.law(x, "turn ?"), Due.fault(5, 0));
        due.is("the tape is empty then, too", x.count(14), 0);
        due.is("no law of it", x.count(10), 1);
        for (int i = 1; i < 20; i++) {
            due.is("law " + i, Due.law(x, "turn 1"), i);
        }
        due.is("law 20", Due.law(x, "turn 1"), -1);
        due.is("the tape stays", x.count(14), 6);
    }

    private static void force() {
        FilesOpened x = new FilesOpened();
        due.is("none", x.force(0), -1);
        Due.write(x, "turn 1");
        x.law(9);
        Due.write(x, "turn 2");
        x.law(3);
        Due.write(x, "turn 3");
        x.law(9);
        Due.write(x, "turn 4");
        x.law(5);
        due.is("ahead of all", x.force(2), -1);
        due.is("on its day", x.force(3), 1);
        due.is("the latest", x.force(8), 3);
        due.is("of several the last told", x.force(9), 2);
        due.is("the last day", x.force(3999), 2);
        due.is("day 4000", x.force(4000), -1);
        due.is("day -1", x.force(-1), -1);
    }

    private static void check(String text, int place, int kind) {
        due.is(text, Due.law(new FilesOpened(), text), Due.fault(place, kind));
    }

    private static void good(String text) {
        due.is(text, Due.law(new FilesOpened(), text), 0);
    }

    private static void places() {
        good("read let if self=1");
        good("  read  black  if  1<2  ");
        good("need0if1=1;turn(1)");
        good("read bar if not[1>=1or 2<=2and 3>3]");
        check("", 0, 0);
        check("   ", 3, 0);
        check("reads let if 1=1", 0, 0);
        check("Read let if 1=1", 0, 0);
        check("read lets if 1=1", 5, 0);
        check("readlet if 1=1", 0, 0);
        check("read", 4, 0);
        check("read let", 8, 0);
        check("read let of 1=1", 9, 0);
        check("read let if", 11, 0);
        check("read let if ", 12, 0);
        check("read let if 1", 13, 0);
        check("read let if 1=", 14, 0);
        check("read let if 1==1", 14, 0);
        check("read let if 1=>1", 14, 0);
        check("read let if 1< =1", 15, 0);
        check("read let if (1=1)", 14, 0);
        check("read let if [1]", 14, 0);
        check("read let if [1=1", 16, 0);
        check("read let if [1=1)", 16, 0);
        check("read let if 1=1]", 15, 0);
        check("read let if 1=1 1", 16, 0);
        check("read let if 1<2<3", 15, 0);
        check("read let if 1=1 and", 19, 0);
        check("read let if 1=1 or or", 19, 0);
        check("read let if not", 15, 0);
        check("read let if and", 12, 0);
        check("read let if selfs=1", 12, 0);
        check("turn dayz", 5, 0);
        check("turn 1" + ";".repeat(394), 7, 0);
        check("(".repeat(400), 0, 0);
        check("turn", 4, 0);
        check("turn -1", 5, 0);
        check("turn 1+", 7, 0);
        check("turn 1=1", 6, 0);
        check("turn (1", 7, 0);
        check("turn ()", 6, 0);
        check("turn 1)", 6, 0);
        check("turn 1\t", 6, 0);
        check("turn [1]", 5, 0);
        check("turn not", 5, 0);
        check("turn 1;", 7, 0);
        check("turn 1;;", 7, 0);
        check(";turn 1", 0, 0);
        check("need if 1=1", 5, 0);
        check("need day if 1=1", 5, 0);
        check("need 1 1=1", 7, 0);
        check("need -1 if 1=1", 5, 0);
        check("turn 1x", 6, 0);
        check("turn " + (char) 233, 5, 0);
        check("turn 1" + (char) 0, 6, 0);
        StringBuilder blanks = new StringBuilder("turn 1");
        while (blanks.length() < 400) {
            blanks.append(' ');
        }
        good(blanks.toString());
        check(blanks.substring(0, 399) + ";", 400, 0);
    }

    private static void numbers() {
        good("turn 9999");
        good("turn 0000");
        check("turn 10000", 5, 1);
        check("turn 00000", 5, 1);
        check("turn 1+ 12345", 8, 1);
        check("read 12345", 5, 0);
        good("need 99 if 1=1");
        good("need 0099 if 1=1");
        check("need 100 if 1=1", 5, 1);
        check("need 00099 if 1=1", 5, 1);
        check("need 100 ?", 5, 1);
    }

    private static void depth() {
        good("turn " + "(".repeat(10) + "1" + ")".repeat(10));
        check("turn " + "(".repeat(11) + "1" + ")".repeat(11), 15, 2);
        good("read let if " + "[".repeat(10) + "1=1" + "]".repeat(10));
        check("read let if " + "[".repeat(11) + "1=1" + "]".repeat(11), 22, 2);
        good("read let if " + "not ".repeat(10) + "1=1");
        check("read let if " + "not ".repeat(11) + "1=1", 52, 2);
        good("read let if not[" + "(".repeat(8) + "1" + ")".repeat(8) + "=(1)]");
        check("read let if not[" + "(".repeat(9) + "1" + ")".repeat(9) + "=(1)]", 24, 2);
        check("read let if not[" + "(".repeat(8) + "1" + ")".repeat(8) + "=" + "(".repeat(9) + "1", 42, 2);
        good("read let if " + "not 1=1 and ".repeat(12) + "1=1");
        good("turn " + "(1)+".repeat(30) + "1");
    }

    private static String row(String one, int many) {
        return one.repeat(many);
    }

    private static void many() {
        good("turn 1" + row("+1", 79));
        check("turn 1" + row("+1", 80), 5 + 160, 3);
        check("turn 1" + row("+1", 79) + "+x", 5 + 160, 0);
        check("turn 1" + row("+1", 79) + "+12345", 5 + 160, 1);
        check("turn 1" + row("+1", 79) + "+(1)", 5 + 160, 3);
        good("turn 1" + row("+1", 77) + "+(1)");
        check("turn 1" + row("+1", 78) + "+(1)", 5 + 159, 3);
        good("turn 1" + row("+1", 75) + ";read let if day=age");
        check("turn 1" + row("+1", 78) + ";read let if 1=1", 5 + 157 + 14, 3);
        check("turn 1" + row("+1", 77) + ";read let if 1=1", 5 + 155 + 15, 3);
        good("turn 1" + row("+1", 76) + ";read let if 1=1");
        check("turn 1" + row("+1", 79) + ";read let if 1=1", 5 + 159 + 13, 3);
        good("turn 1" + row("+1", 76) + ";need 7 if 1=1");
        good("read let if 1=1" + row("or 1=1", 25));
        check("read let if 1=1" + row("or 1=1", 25) + "and 1<=1or 1=1", 15 + 150 + 7, 3);
        check("turn " + "(".repeat(10) + "1" + ")".repeat(10) + row("+1", 69) + "+((1", 5 + 21 + 138 + 1, 3);
    }

    private static void clauses() {
        good("turn 1" + row(";turn 1", 11));
        check("turn 1" + row(";turn 1", 11) + "; turn 1", 6 + 77 + 2, 4);
        check("turn 1" + row(";turn 1", 11) + "; tur 1", 6 + 77 + 2, 0);
        check("turn 1" + row(";turn 1", 11) + ";", 6 + 77 + 1, 0);
        check("turn 1" + row(";turn 1", 11) + ";need ?", 6 + 77 + 1, 4);
    }

    private static void sum(String text, long want) {
        FilesOpened x = new FilesOpened();
        x.sheet();
        x.reader(-1, true);
        x.ask(0, 0);
        due.is(text + " is a law", Due.law(x, text), 0);
        due.is(text, x.turn(0), want);
    }

    private static void sums() {
        sum("turn 7", 7);
        sum("turn 2+3*4", 14);
        sum("turn (2+3)*4", 20);
        sum("turn 10-3-2", 5);
        sum("turn 10-(3-2)", 9);
        sum("turn 2*3*4-5*2+1", 15);
        sum("turn 0-9999", -9999);
        sum("turn press*100+press", 101);
        sum("turn 9999*9999*9999*9999*9999", 9999L * 9999 * 9999 * 9999 * 9999);
        sum("turn 1;turn 2", 1);
        sum("need 1 if 1=1;turn 3", 3);
        sum("need 1 if 1=1", 0);
        sum("turn self+third+source+reports+bills", 0);
    }

    private static void test(String text, int want) {
        FilesOpened x = new FilesOpened();
        x.cover(0);
        due.is(text + " is a law", Due.law(x, "need 1 if " + text + ";need 0 if 1=1"), 0);
        due.is(text, x.need(0, 0), want);
    }

    private static void tests() {
        test("1<2", 1);
        test("2<2", 0);
        test("2<=2", 1);
        test("3<=2", 0);
        test("2=2", 1);
        test("2=3", 0);
        test("2>=2", 1);
        test("1>=2", 0);
        test("3>2", 1);
        test("2>2", 0);
        test("0-1<0", 1);
        test("not 1=1", 0);
        test("not not 1=1", 1);
        test("not 1=2 and 1=2", 0);
        test("1=1 or 1=1 and 1=2", 1);
        test("[1=1 or 1=1] and 1=2", 0);
        test("1=2 and 1=1 or 1=1", 1);
        test("1=2 or 1=2 or 1=1", 1);
        test("1=1 and 1=1 and 1=2", 0);
        test("not [1=2 or 1=1]", 0);
        test("1+1=2*1", 1);
        test("self+third+source+age+lines+press+waits+asked=0", 1);
    }
}
