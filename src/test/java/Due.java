/** Counts the answers that are not as due; the tests of the project share it. */
final class Due {
    private int asked;
    private int wrong;

    void is(String call, long got, long want) {
        asked++;
        if (got != want) {
            wrong++;
            System.out.println(call + " answered " + got + ", due is " + want);
        }
    }

    void yes(String call, boolean got) {
        is(call, got ? 1 : 0, 1);
    }

    void no(String call, boolean got) {
        is(call, got ? 1 : 0, 0);
    }

    void end() {
        System.out.println(asked + " answers, " + wrong + " not as due");
        if (wrong != 0) {
            System.exit(1);
        }
    }

    /** Puts a text on the tape, behind what it has, and cuts off what fills up the last feed. */
    static void write(FilesOpened x, String text) {
        int before = x.count(14);
        for (int i = 0; i < text.length(); i += 20) {
            x.feed(four(text, i), four(text, i + 4), four(text, i + 8), four(text, i + 12), four(text, i + 16));
        }
        x.end(before + text.length());
    }

    private static int four(String text, int from) {
        int four = 0;
        for (int i = from; i < from + 4; i++) {
            four = four << 8 | (i < text.length() ? text.charAt(i) & 255 : 0);
        }
        return four;
    }

    /** Tells a law that binds from today on. */
    static int law(FilesOpened x, String text) {
        write(x, text);
        return x.law(x.count(0));
    }

    static int fault(int place, int kind) {
        return -2 - (1 + 8 * place + kind);
    }

    static long edges(int up, int right, int down, int left) {
        return (up & 65535L) << 48 | (right & 65535L) << 32 | (down & 65535L) << 16 | left & 65535L;
    }

    static long packed(int bits, int... numbers) {
        long all = 0;
        for (int i = numbers.length - 1; i >= 0; i--) {
            all = all << bits | numbers[i];
        }
        return all;
    }
}
