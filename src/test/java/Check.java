import java.util.NoSuchElementException;

/** What the tests share: answers held against those that are due, and texts put on the tape. */
final class Check {
    /** Stands for a call that throws NoSuchElementException. */
    static final long THROWS = Long.MIN_VALUE;

    private static int wrong = 0;

    private Check() {
    }

    static void due(String call, long got, long want) {
        if (got != want) {
            wrong++;
            System.out.println(call + " answered " + got + ", due is " + want);
        }
    }

    static void due(String call, boolean got, boolean want) {
        due(call, got ? 1 : 0, want ? 1 : 0);
    }

    static long look(GiftShops x, int thing, int what) {
        try {
            return x.look(thing, what);
        } catch (NoSuchElementException e) {
            return THROWS;
        }
    }

    /** Puts a text behind the tape, 24 signs a call; tells how many signs are there then. */
    static int feed(GiftShops x, String text) {
        int there = x.count(8);
        for (int from = 0; from < text.length(); from += 24) {
            there = x.feed(packed(text, from), packed(text, from + 8), packed(text, from + 16));
        }
        return there;
    }

    private static long packed(String text, int from) {
        long bytes = 0;
        for (int i = from; i < from + 8; i++) {
            bytes = bytes << 8 | (i < text.length() ? text.charAt(i) : 0);
        }
        return bytes;
    }

    static int read(GiftShops x, String text) {
        feed(x, text);
        return x.text();
    }

    static GiftShops with(String text) {
        GiftShops x = new GiftShops();
        due("reading [" + text + "]", read(x, text), 0);
        return x;
    }

    static void end() {
        System.out.println(wrong == 0 ? "all answers are as due" : wrong + " answers are not as due");
        if (wrong != 0) {
            System.exit(1);
        }
    }
}
