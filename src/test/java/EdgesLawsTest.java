/** Promises 30 to 33 and the language of laws, a sentence of the document at a time: its edges and its faults. */
public final class EdgesLawsTest {
    private static final int NONE = FilesOpened.NONE;
    private static final int AT = 0;
    private static final int NUMBER = 1;
    private static final int DEEP = 2;
    private static final int MANY = 3;
    private static final int THIRTEENTH = 4;
    private static final String[] WORDS = {"self", "third", "source", "age", "lines", "press", "waits", "asked",
        "reports", "bills", "day"};
    private static final String VALUE = " 5 self third source age lines press waits asked reports bills day ";
    private static final String SIGN = " < <= = >= > ";
    private static final String ALL = VALUE + SIGN + "read need turn let black bar if or and not ; ( ) [ ] + - * 12345 x ? ";
    private static final Due due = new Due();

    private EdgesLawsTest() {
    }

    public static void main(String[] args) {
        bytesOfANumber();
        noneComes();
        firstBytesAlone();
        bindsFromADay();
        emptyThen();
        inForce();
        faultAsAnswer();
        clauses();
        clauseForms();
        bytes();
        blanks();
        numbers();
        words();
        eachInItsPlace();
        facts();
        deep();
        many();
        firstFault();
        wholeTape();
        due.end();
    }

    private static void good(String text) {
        due.is(text, Due.law(new FilesOpened(), text), 0);
    }

    /** The fault lies where the text is marked by ^ (which is no sign of the language). */
    private static void fault(int kind, String marked) {
        int place = marked.indexOf('^');
        String text = marked.substring(0, place) + marked.substring(place + 1);
        due.is(marked, Due.law(new FilesOpened(), text), Due.fault(place, kind));
    }

    /** 30: twenty bytes, of each number the highest first; a byte above 127 is none of the language. */
    private static void bytesOfANumber() {
        int blanks = 0x20202020;
        FilesOpened x = new FilesOpened();
        due.is("turn 9", x.feed(0x7475726e, 0x20392020, blanks, blanks, blanks), 20);
        due.is("law", x.law(0), 0);
        int[][] places = {{0x7475726e, 0x2031ff20, blanks, blanks, blanks, 6},
            {0x7475726e, 0x20312080, blanks, blanks, blanks, 7},
            {0x7475726e, 0x20312020, 0x80202020, blanks, blanks, 8},
            {0x7475726e, 0x20312020, blanks, 0x20002020, blanks, 13},
            {0x7475726e, 0x20312020, blanks, blanks, 0x202020ff, 19},
            {0x7475726e, 0x20312020, blanks, blanks, 0x20202000, 19}};
        for (int[] row : places) {
            x.feed(row[0], row[1], row[2], row[3], row[4]);
            due.is("a byte at " + row[5], x.law(0), Due.fault(row[5], AT));
        }
        x.feed(-1, Integer.MIN_VALUE, Integer.MAX_VALUE, 0, 1);
        due.is("the first byte", x.law(0), Due.fault(0, AT));
    }

    /** 30: NONE, and none comes, if it would have more than 400. */
    private static void noneComes() {
        for (int before = 379; before <= 400; before++) {
            FilesOpened x = new FilesOpened();
            Due.write(x, " ".repeat(before));
            due.is("bytes", x.count(14), before);
            due.is("feed at " + before, x.feed(0, 0, 0, 0, 0), before <= 380 ? before + 20 : NONE);
            due.is("bytes after it", x.count(14), before <= 380 ? before + 20 : before);
            due.is("place of the fault", x.law(0), Due.fault(before, AT));
        }
    }

    /** 31: the TAPE has its first n bytes alone; NONE, and nothing happens, if it has not so many, or below 0. */
    private static void firstBytesAlone() {
        FilesOpened x = new FilesOpened();
        Due.write(x, "turn 1234");
        due.is("more than it has", x.end(10), NONE);
        due.is("below 0", x.end(NONE), NONE);
        due.is("as many as it has", x.end(9), 9);
        due.is("one fewer", x.end(8), 8);
        due.is("it has not so many any more", x.end(9), NONE);
        Due.write(x, "5;turn 1");
        due.is("what was cut off is gone", x.count(14), 16);
        due.is("law", x.law(0), 0);
        x.sheet();
        x.reader(NONE, false);
        x.ask(0, 0);
        due.is("turn 1235", x.turn(0), 1235);
        Due.write(x, "turn 1");
        due.is("none", x.end(0), 0);
        due.is("an empty text", x.law(0), Due.fault(0, AT));
    }

    /** 32: there are 20, or the DAY is behind 3999 or ahead of NOW: NONE, and nothing happens. */
    private static void bindsFromADay() {
        FilesOpened x = new FilesOpened();
        x.clock(7);
        Due.write(x, "turn 1");
        int[] refused = {6, 0, NONE, 4000, Integer.MIN_VALUE, Integer.MAX_VALUE};
        for (int day : refused) {
            due.is("law(" + day + ")", x.law(day), NONE);
            due.is("bytes", x.count(14), 6);
            due.is("laws", x.count(10), 0);
        }
        due.is("law(7)", x.law(7), 0);
        due.is("force(6)", x.force(6), NONE);
        due.is("force(7)", x.force(7), 0);
        Due.write(x, "turn 1");
        due.is("law(3999)", x.law(3999), 1);
        due.is("force(3998)", x.force(3998), 0);
        due.is("force(3999)", x.force(3999), 1);
        Due.write(x, "turn ?");
        due.is("a fault, and no such day", x.law(6), NONE);
        due.is("a fault", x.law(3999), Due.fault(5, AT));
    }

    /** 32: the TAPE, which is empty then. */
    private static void emptyThen() {
        FilesOpened x = new FilesOpened();
        due.is("law", Due.law(x, "turn 1"), 0);
        due.is("empty", x.count(14), 0);
        due.is("the same again is none", x.law(0), Due.fault(0, AT));
        due.is("fault", Due.law(x, "turn"), Due.fault(4, AT));
        due.is("empty with a fault, too", x.count(14), 0);
        due.is("laws", x.count(10), 1);
        due.is("the next law", Due.law(x, "turn 2"), 1);
    }

    /** 33: the latest such DAY not behind it, of several the last told. */
    private static void inForce() {
        FilesOpened x = new FilesOpened();
        int[] days = {5, 5, 3, 0, 9, 5, 8};
        for (int i = 0; i < days.length; i++) {
            Due.write(x, "turn " + i);
            due.is("law " + i, x.law(days[i]), i);
        }
        int[] want = {3, 3, 3, 2, 2, 5, 5, 5, 6, 4, 4};
        for (int day = 0; day < want.length; day++) {
            due.is("force(" + day + ")", x.force(day), want[day]);
        }
        x.clock(6);
        due.is("a law of today", Due.law(x, "turn 7"), 7);
        due.is("force(5) is what it was", x.force(5), 5);
        due.is("force(6)", x.force(6), 7);
        due.is("force(8)", x.force(8), 6);
    }

    /** 32: -2 - its FAULT, which is 1 + 8 * its place and its kind. */
    private static void faultAsAnswer() {
        FilesOpened x = new FilesOpened();
        due.is("the end of nothing", x.law(0), -3);
        due.is("a byte", Due.law(x, "?"), -3);
        due.is("the end", Due.law(x, "turn"), -2 - (1 + 8 * 4));
        due.is("a number", Due.law(x, "turn 12345"), -2 - (1 + 8 * 5 + 1));
        due.is("too deep", Due.law(x, "turn ((((((((((("), -2 - (1 + 8 * 15 + 2));
        due.is("too many", Due.law(x, "turn 1" + "+1".repeat(80)), -2 - (1 + 8 * 165 + 3));
        due.is("a clause", Due.law(x, "turn 1" + ";turn 1".repeat(12)), -2 - (1 + 8 * 84 + 4));
        due.is("none of them is a law", x.count(10), 0);
    }

    /** CLAUSE { ; CLAUSE }, 12 at most; a thirteenth CLAUSE (at its first byte). */
    private static void clauses() {
        for (int more = 0; more <= 11; more++) {
            good("turn 1" + ";turn 1".repeat(more));
        }
        String twelve = "turn 1" + ";turn 1".repeat(11);
        fault(THIRTEENTH, twelve + ";^turn 1");
        fault(THIRTEENTH, twelve + ";  ^need 1 if 1=1");
        fault(THIRTEENTH, twelve + ";^read let if 1=1");
        fault(THIRTEENTH, twelve + ";^read ?");
        fault(AT, twelve + ";^");
        fault(AT, twelve + "; ^");
        fault(AT, twelve + ";^;turn 1");
        fault(AT, twelve + ";^let");
        fault(AT, twelve + " ^turn 1");
        good("read let if 1=1" + ";read black if 1=2".repeat(11));
        fault(THIRTEENTH, "need 0 if 1=1" + ";need 1 if 1=2".repeat(11) + ";^need 2 if 1=1");
    }

    /** read VERB if TEST, VERB let, black or bar; need NUMBER if TEST; turn SUM. */
    private static void clauseForms() {
        good("read let if 1=1");
        good("read black if 1=1");
        good("read bar if 1=1");
        good("need 5 if 1=1");
        good("turn 5");
        fault(AT, "^let if 1=1");
        fault(AT, "^if 1=1");
        fault(AT, "^1=1");
        fault(AT, "^5");
        fault(AT, "^reader let if 1=1");
        fault(AT, "read ^if 1=1");
        fault(AT, "read ^5 if 1=1");
        fault(AT, "read ^self if 1=1");
        fault(AT, "read ^not if 1=1");
        fault(AT, "read let^");
        fault(AT, "read let ^1=1");
        fault(AT, "read let ^black if 1=1");
        fault(AT, "read let ^;turn 1");
        fault(AT, "read let if^");
        fault(AT, "read let if ^;turn 1");
        fault(AT, "read let if ^if 1=1");
        fault(AT, "need^");
        fault(AT, "need ^if 1=1");
        fault(AT, "need ^let if 1=1");
        fault(AT, "need ^day if 1=1");
        fault(AT, "need ^(5) if 1=1");
        fault(AT, "need ^-1 if 1=1");
        fault(AT, "need 5^");
        fault(AT, "need 5 ^5 if 1=1");
        fault(AT, "need 5^+1 if 1=1");
        fault(AT, "need 5 if^");
        fault(AT, "turn^");
        fault(AT, "turn ^if 1=1");
        fault(AT, "turn 5 ^if 1=1");
        fault(AT, "turn 5^=5");
        fault(AT, "turn 5 ^and 5");
        fault(AT, "turn ^;turn 5");
        fault(AT, "turn 5 ^turn 5");
        fault(AT, "turn 5;^");
        fault(AT, "turn 5;^;turn 5");
        fault(AT, "^;turn 5");
    }

    /** 0 a byte or WORD that can't stand there: each byte alone, and in four places of a text. */
    private static void bytes() {
        for (int b = 0; b < 256; b++) {
            boolean blank = b == ' ';
            boolean digit = b >= '0' && b <= '9';
            boolean joint = b == '+' || b == '-' || b == '*';
            byteIn("", b, "", blank ? Due.fault(1, AT) : Due.fault(0, AT));
            byteIn("turn ", b, "", digit ? 0 : blank || b == '(' ? Due.fault(6, AT) : Due.fault(5, AT));
            byteIn("turn 1", b, "", digit || blank ? 0 : joint || b == ';' ? Due.fault(7, AT) : Due.fault(6, AT));
            byteIn("turn day", b, "", blank ? 0 : b >= 'a' && b <= 'z' ? Due.fault(5, AT)
                : joint || b == ';' ? Due.fault(9, AT) : Due.fault(8, AT));
            byteIn("turn 1", b, "1", digit || joint ? 0 : blank || b == ';' ? Due.fault(7, AT) : Due.fault(6, AT));
        }
    }

    private static void byteIn(String ahead, int b, String behind, int want) {
        String text = ahead + (char) b + behind;
        due.is(ahead + "byte " + b + behind, Due.law(new FilesOpened(), text), want);
    }

    /** Blanks (32) stand between as one likes; the end is behind the last byte. */
    private static void blanks() {
        good("turn1");
        good("need0if1=1");
        good("need0if1=1or1=2and1=3;turn(1)*2");
        good("read let if[not(1)=1]");
        good("   turn   1   +   2   *   (   3   )   ;   turn   4   ");
        good(" read  let  if  not  [  1  <=  2  or  2  >=  3  and  3  =  3  ]  ");
        fault(AT, "^readlet if 1=1");
        fault(AT, "^re ad let if 1=1");
        fault(AT, "read let if 1< ^=2");
        fault(AT, "read let if 1> ^=2");
        fault(AT, "turn 1 ^2");
        fault(AT, "turn ^da y");
        fault(AT, "turn^\t1");
        fault(AT, "turn 1^\n");
        fault(AT, "turn 1^" + (char) 160);
        fault(AT, "^");
        fault(AT, " ^");
        fault(AT, " ".repeat(399) + "^");
        fault(AT, " ".repeat(400) + "^");
        fault(AT, " ".repeat(399) + "^;");
        fault(AT, "turn 1 + ^");
        fault(AT, "turn 1 +      ^");
    }

    /** NUMBERS 1 to 4 digits (as far as digits go on); 1 a NUMBER not as told (of more digits; of need above 99). */
    private static void numbers() {
        good("turn 0");
        good("turn 9999");
        good("turn 0000");
        fault(NUMBER, "turn ^10000");
        fault(NUMBER, "turn ^00000");
        fault(NUMBER, "turn ^" + "1".repeat(395));
        fault(NUMBER, "turn 1+^12345");
        fault(NUMBER, "read let if 1=^12345");
        fault(NUMBER, "read let if ^12345=1");
        good("need 0 if 1=1");
        good("need 99 if 1=1");
        good("need 0099 if 1=1");
        fault(NUMBER, "need ^100 if 1=1");
        fault(NUMBER, "need ^0100 if 1=1");
        fault(NUMBER, "need ^9999 if 1=1");
        fault(NUMBER, "need ^00001 if 1=1");
        fault(NUMBER, "need ^100");
        fault(AT, "read ^12345");
        fault(AT, "turn 1 ^12345");
        fault(AT, "^12345");
        good("turn 100");
        good("need 99 if 100=100");
    }

    /** WORDS: each may stand as a VALUE in every CLAUSE; the others of the language may not. */
    private static void words() {
        for (String word : WORDS) {
            good("turn " + word);
            good("read let if " + word + "=" + word);
            good("need 1 if " + word + "=" + word);
            fault(AT, "turn ^" + word + "s");
            fault(AT, "turn ^" + word.substring(1));
            fault(AT, "turn ^" + word.substring(0, word.length() - 1));
            fault(AT, "turn ^" + word.toUpperCase());
            fault(AT, "turn " + word + " ^" + word);
            fault(AT, "turn " + word + "^1");
            fault(AT, "turn 1^" + word);
            fault(AT, "^" + word);
            for (int i = 0; i < word.length(); i++) {
                fault(AT, "turn ^" + word.substring(0, i) + "x" + word.substring(i + 1));
            }
        }
        for (String word : new String[] {"read", "need", "turn", "let", "black", "bar", "if", "or", "and", "not"}) {
            fault(AT, "turn ^" + word);
            fault(AT, "turn 1+^" + word);
            fault(AT, "read let if 1=^" + word);
            fault(AT, "read let if (^" + word);
        }
    }

    /** What may stand behind each piece of a text, and what makes a law of it; all else is a fault there. */
    private static void eachInItsPlace() {
        for (String ahead : new String[] {"", "turn 1;", "need 1 if 1=1 ; "}) {
            behind(ahead, " read need turn ", "");
        }
        behind("read ", " let black bar ", "");
        behind("read let ", " if ", "");
        behind("read black ", " if ", "");
        behind("read bar ", " if ", "");
        behind("need ", " 5 ", "");
        behind("need 5 ", " if ", "");
        for (String ahead : new String[] {"turn ", "turn 1+", "turn 1-", "turn 1*", "read let if 1=", "need 1 if 2 = (1)*"}) {
            behind(ahead, " ( ", VALUE);
        }
        behind("turn (", " ( " + VALUE, "");
        behind("read let if 1=(", " ( " + VALUE, "");
        for (String ahead : new String[] {"turn 1 ", "turn (1)", "turn day ", "turn (1)+2 ", "turn 1;turn 2 "}) {
            behind(ahead, " + - * ; ", " end ");
        }
        for (String ahead : new String[] {"turn (1 ", "turn (2+(1)", "read let if 1=(1 "}) {
            behind(ahead, " + - * ", " ) ");
        }
        behind("read let if (1 ", " + - * ) ", "");
        for (String ahead : new String[] {"read let if ", "need 1 if ", "read let if not ", "read let if [",
            "read let if 1=1 and ", "read let if 1=1 or ", "read let if [1=1] and ", "read let if not not "}) {
            behind(ahead, " not [ ( " + VALUE, "");
        }
        for (String ahead : new String[] {"read let if 1 ", "need 1 if day ", "read let if (1)", "read let if [1 ",
            "read let if 1=1 or 1 ", "read let if not 1 "}) {
            behind(ahead, " + - * " + SIGN, "");
        }
        for (String ahead : new String[] {"read let if 1=1 ", "need 1 if not 1=1 ", "read let if 1=(1)",
            "read let if 1=2 and 1=1 ", "read let if [1=1] or 1=1 "}) {
            behind(ahead, " + - * and or ; ", " end ");
        }
        for (String ahead : new String[] {"read let if [1=1]", "read let if not [1=1]", "read let if 1=1 or [1=1]"}) {
            behind(ahead, " and or ; ", " end ");
        }
        behind("read let if [1=1 ", " + - * and or ", " ] ");
        behind("read let if [1=(1)", " + - * and or ", " ] ");
        behind("read let if [[1=1]", " and or ", " ] ");
    }

    /** Both lists of tokens bear a blank on either side of each; those that make a law are named in the second alone. */
    private static void behind(String ahead, String may, String laws) {
        for (String token : (ALL.trim() + " end").split(" +")) {
            String text = ahead + (token.equals("end") ? "" : token);
            String sought = " " + token + " ";
            boolean numberDue = token.equals("12345") && (may + laws).contains(" 5 ");
            int want = laws.contains(sought) ? 0 : may.contains(sought) ? Due.fault(text.length(), AT)
                : Due.fault(ahead.length(), numberDue ? NUMBER : AT);
            due.is(text, Due.law(new FilesOpened(), text), want);
        }
    }

    /** FACT: not FACT | [ TEST ] | SUM SIGN SUM; SIGN one of five; SUM, TERM, VALUE. */
    private static void facts() {
        for (String sign : new String[] {"<", "<=", "=", ">=", ">"}) {
            good("read let if 1" + sign + "2");
            good("read let if 1+2*3-4 " + sign + " (1)*2");
            fault(AT, "read let if 1" + sign + "^");
            fault(AT, "read let if ^" + sign + "1");
            fault(AT, "read let if 1" + sign + "2^" + sign + "3");
        }
        for (String sign : new String[] {"==", "=<", "=>", "<>", "<<", ">>", "><"}) {
            fault(AT, "read let if 1" + sign.charAt(0) + "^" + sign.charAt(1) + "1");
        }
        fault(AT, "read let if 1^!=1");
        fault(AT, "read let if 1^");
        fault(AT, "read let if 1 ^and 1=1");
        fault(AT, "read let if [1^]");
        fault(AT, "read let if [^]");
        fault(AT, "read let if (1^=1)");
        fault(AT, "read let if [1=1^)");
        fault(AT, "read let if 1=(1^]");
        fault(AT, "read let if [1=1^");
        fault(AT, "read let if 1=1^]");
        fault(AT, "read let if 1=1^)");
        fault(AT, "read let if [1=1]^=1");
        fault(AT, "read let if [1=1]^+1=1");
        fault(AT, "read let if 1+^[1=1]");
        fault(AT, "read let if 1=^not 1=1");
        fault(AT, "read let if not^");
        fault(AT, "read let if not ^and 1=1");
        fault(AT, "read let if 1=1 and^");
        fault(AT, "read let if 1=1 or^");
        fault(AT, "read let if 1=1 and ^or 1=1");
        fault(AT, "read let if ^or 1=1");
        fault(AT, "read let if 1=1 ^not 1=1");
        fault(AT, "read let if 1=1 ^[1=1]");
        good("read let if not not [not 1=1 and [1=1 or 1=1]] or 1=1 and not [1=1]");
        fault(AT, "turn ^*1");
        fault(AT, "turn ^+1");
        fault(AT, "turn 1*^*1");
        fault(AT, "turn 1+^+1");
        fault(AT, "turn 1-^-1");
        fault(AT, "turn 1*^-1");
        fault(AT, "turn (^)");
        fault(AT, "turn (1^");
        fault(AT, "turn (1 ^1)");
        fault(AT, "turn (1^=1)");
        fault(AT, "turn (1)^(1)");
        fault(AT, "turn 1^(1)");
        fault(AT, "turn 1^/1");
    }

    /** [ and ( and not lie within one another 10 deep at most; 2 too deep (at the sign that opens, or the word not). */
    private static void deep() {
        String test = "read let if ";
        for (int nots = 0; nots <= 10; nots++) {
            for (int tests = 0; tests <= 10 - nots; tests += 5) {
                int sums = 10 - nots - tests;
                String opened = "not ".repeat(nots) + "[".repeat(tests);
                String end = "=1" + "]".repeat(tests);
                good(test + opened + "(".repeat(sums) + "1" + ")".repeat(sums) + end);
                fault(DEEP, test + opened + "(".repeat(sums) + "^(1)" + ")".repeat(sums) + end);
                fault(DEEP, test + opened + "1=" + "(".repeat(sums) + "^(1)");
            }
        }
        fault(DEEP, test + "[".repeat(10) + "^[1=1");
        fault(DEEP, test + "[".repeat(10) + "^not 1=1");
        fault(DEEP, test + "[".repeat(10) + "1=1 and ^not 1=1");
        fault(DEEP, test + "not ".repeat(10) + "^not 1=1");
        fault(DEEP, test + "not ".repeat(10) + "^[1=1]");
        fault(DEEP, test + "not[".repeat(5) + "^not");
        fault(DEEP, test + "not[".repeat(5) + "1=1 or ^[");
        fault(DEEP, test + "not[".repeat(5) + "1=^(");
        fault(DEEP, "turn " + "(".repeat(10) + "1+^(");
        fault(AT, test + "[".repeat(10) + "^");
        fault(AT, test + "(".repeat(10) + "^[1=1]");
        fault(AT, "turn " + "(".repeat(10) + "^not");
        good(test + "not ".repeat(10) + "1=1 and " + "not ".repeat(10) + "1=1");
        good(test + "[".repeat(10) + "1=1" + "]".repeat(10) + " and (((1)))=1 or " + "[".repeat(10) + "1=1"
            + "]".repeat(10));
        good("turn " + "(".repeat(10) + "1" + ")".repeat(10) + "*" + "(".repeat(10) + "1" + ")".repeat(10));
        good(test + "[" + "(".repeat(9) + "1" + ")".repeat(9) + "=1 and " + "not ".repeat(9) + "1=1]");
        good("turn ((((((((((1))))))))));" + test + "not not not not not [[[[[1=1]]]]]");
    }

    /** At most 80 VALUES and FACTS made of a SIGN, together; 3 (at its first byte; of a FACT at its SIGN). */
    private static void many() {
        good("turn 1" + "+1".repeat(79));
        fault(MANY, "turn 1" + "+1".repeat(79) + "+^1");
        fault(MANY, "turn 1" + "*1".repeat(79) + "*^day");
        good("turn 1" + "*day".repeat(79));
        good("read let if 1=1" + " or 1=1".repeat(25) + ";turn 1+1");
        fault(MANY, "read let if 1=1" + " or 1=1".repeat(25) + ";turn 1+1+^1");
        fault(MANY, "turn 1+1;read let if 1=1" + " or 1=1".repeat(25) + " or ^1=1");
        fault(MANY, "turn 1;read let if 1=1" + " or 1=1".repeat(25) + " or 1^=1");
        fault(MANY, "read let if 1=1" + " or 1=1".repeat(25) + " or 1=^1");
        fault(MANY, "read let if 1=1" + " or 1=1".repeat(25) + " or 1<=^1");
        fault(MANY, "turn 1;need 1 if 1=1" + " or 1=1".repeat(25) + " or 1 ^>= 1");
        good("need 9 if 1=1" + ";need 9 if not [1=1]".repeat(10) + ";turn 1" + "+1".repeat(46));
        fault(MANY, "need 9 if 1=1" + ";need 9 if not [1=1]".repeat(10) + ";turn 1" + "+1".repeat(46) + "+^1");
        good("turn 1" + "+(1)".repeat(39) + "+1");
        fault(MANY, "turn 1" + "+(1)".repeat(39) + "+(^1)");
        fault(MANY, "turn 1+1" + "+(1)".repeat(39) + "+^(1)");
        fault(MANY, "turn ((((1))))" + "+1".repeat(75) + "+^1");
    }

    /** The first along the text; of one place the least. */
    private static void firstFault() {
        fault(NUMBER, "turn ^12345;turn ?");
        fault(AT, "turn ^?;turn 12345");
        fault(DEEP, "turn " + "(".repeat(10) + "^(12345");
        fault(NUMBER, "turn " + "(".repeat(10) + "^12345+((");
        fault(NUMBER, "need ^100 of ?");
        String eighty = "turn 1" + "+1".repeat(79);
        fault(AT, eighty + "+^");
        fault(AT, eighty + "+^?");
        fault(AT, eighty + "+^dayz");
        fault(AT, eighty + "+^)");
        fault(NUMBER, eighty + "+^12345");
        fault(AT, "turn 1;read let if 1=1" + " or 1=1".repeat(25) + " or 1 ^?");
        String seventy = "turn 1" + "+1".repeat(69) + "+" + "(".repeat(10);
        fault(DEEP, seventy + "^(1");
        fault(MANY, seventy + "^1");
        fault(MANY, "turn 1" + "+1".repeat(70) + "+" + "(".repeat(9) + "^(1");
        String twelve = "turn 1" + ";turn 1".repeat(11);
        fault(AT, twelve + ";^12345");
        fault(AT, twelve + ";^?");
        fault(THIRTEENTH, twelve + ";^turn 12345");
        fault(AT, twelve + "+^;turn 1");
    }

    /** Texts of at most 400 bytes: a law, and faults, at the very end. */
    private static void wholeTape() {
        good("turn 1" + " ".repeat(394));
        good(" ".repeat(394) + "turn 1");
        fault(AT, " ".repeat(394) + "turn ^+");
        fault(NUMBER, " ".repeat(390) + "turn ^12345");
        fault(AT, " ".repeat(386) + "read let if 1<^");
        fault(AT, " ".repeat(386) + "read let if 1>^");
        fault(AT, " ".repeat(385) + "read let if 1<=^");
        fault(AT, " ".repeat(396) + "turn^");
        fault(AT, " ".repeat(393) + "turn 1;^");
        fault(AT, "turn 1" + " ".repeat(393) + "^?");
        good("turn " + "9".repeat(4) + " ".repeat(389) + "+9");
        fault(AT, "^" + ";".repeat(400));
        fault(AT, "turn ^" + "+".repeat(395));
        fault(DEEP, "turn " + "(".repeat(10) + "^" + "(".repeat(385));
        fault(AT, "^" + "a".repeat(400));
        fault(AT, "turn ^" + "z".repeat(395));
    }
}
