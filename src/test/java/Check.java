import java.util.NoSuchElementException;

/** What the tests share: answers held against those that are due, and texts put on the tape. */
final class Check {
    /** Stands for a call that throws NoSuchElementException. */
    static final long THROWS = Long.MIN_VALUE;

    /** Numbers that no call of the document takes. */
    static final int[] WILD = {Integer.MIN_VALUE, -1, 4096, Integer.MAX_VALUE};

    static final String ALL_SHELF = "shelf when 1;";
    static final String BY_STATE =
            "shelf when state = 1; store when state = 2; rag when state = 3; look when state = 4;";

    private static int wrong = 0;
    private static String sentence = "";

    private Check() {
    }

    /** What follows, up to the next such call, tests this sentence of the document. */
    static void at(String words) {
        sentence = "\"" + words + "\": ";
    }

    static void due(String call, long got, long want) {
        if (got != want) {
            wrong++;
            System.out.println(sentence + call + " answered " + got + ", due is " + want);
        }
    }

    static void yes(String call, boolean got) {
        due(call, got, true);
    }

    static void no(String call, boolean got) {
        due(call, got, false);
    }

    static void due(String call, boolean got, boolean want) {
        due(call, got ? 1 : 0, want ? 1 : 0);
    }

    static long look(GiftShops x, int thing, int what) {
        try {
            return x.look(thing, what);
        } catch (NoSuchElementException e) {
            return THROWS;
        }
    }

    /** Puts a text behind the tape, 24 signs a call; tells how many signs are there then. */
    static int feed(GiftShops x, String text) {
        int there = x.count(8);
        for (int from = 0; from < text.length(); from += 24) {
            there = x.feed(packed(text, from), packed(text, from + 8), packed(text, from + 16));
        }
        return there;
    }

    private static long packed(String text, int from) {
        long bytes = 0;
        for (int i = from; i < from + 8; i++) {
            bytes = bytes << 8 | (i < text.length() ? text.charAt(i) : 0);
        }
        return bytes;
    }

    static int read(GiftShops x, String text) {
        feed(x, text);
        return x.text();
    }

    static GiftShops with(String text) {
        GiftShops x = new GiftShops();
        due("reading [" + text + "]", read(x, text), 0);
        return x;
    }

    /** Things 0 to 6, each of them what its number tells; 1 lies in shop 1, 5 was sold in 2, 6 was lost in 3. */
    static GiftShops oneOfEach() {
        GiftShops x = with(BY_STATE);
        for (int state = 0; state <= 4; state++) {
            x.give(state, 0, state, 4);
        }
        x.give(5, 0, 1, 4);
        x.give(6, 0, 1, 4);
        for (int thing = 1; thing <= 4; thing++) {
            x.sort(thing, 1);
        }
        x.sort(5, 2);
        x.sell(5);
        x.sort(6, 3);
        x.lose(6);
        return x;
    }

    /** So many things of kind 0, for all seasons, put on a shop's shelf by a text that tells so. */
    static GiftShops lying(int things, int shop) {
        GiftShops x = with(ALL_SHELF);
        for (int i = 0; i < things; i++) {
            x.sort(x.give(0, 0, 0, 4), shop);
        }
        return x;
    }

    static void end() {
        System.out.println(wrong == 0 ? "all answers are as due" : wrong + " answers are not as due");
        if (wrong != 0) {
            System.exit(1);
        }
    }
}
