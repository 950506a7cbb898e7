import java.util.ArrayList;
import java.util.List;

/** A call that is refused changes nothing: an object with such calls answers as its twin without them. */
public final class RefusedTest {
    private static final int[] WILD = Check.WILD;
    private static final String[] METHODS = {"give", "shelf", "base", "sort", "says", "habit", "weeks", "price",
        "sell", "undo", "lose", "thefts", "worth", "where", "move", "van", "way", "round", "helper", "least", "rate",
        "relief", "look", "count"};

    public static void main(String[] args) {
        for (int method = 0; method < METHODS.length; method++) {
            Check.at("refused calls of " + METHODS[method]);
            GiftShops plain = busy();
            GiftShops tried = busy();
            refuse(tried, method);
            List<Long> due = everything(plain);
            List<Long> got = everything(tried);
            for (int i = 0; i < due.size(); i++) {
                Check.due("answer " + i + " of its twin", got.get(i), due.get(i));
            }
        }
        Check.end();
    }

    /** Something of everything; thing 7 lies in a full shop, and a text waits on the tape. */
    private static GiftShops busy() {
        GiftShops x = Check.oneOfEach();
        x.weeks(1);
        x.base(1, 100);
        x.sort(x.give(7, 1, 1, 4), 0);
        x.sort(x.give(7, 1, 1, 4), 4);
        x.sell(8);
        x.undo(1);
        x.sell(8);
        x.undo(0);
        x.shelf(0, 1);
        x.weeks(1);
        x.says(0, 0, 3);
        x.says(0, 0, 1);
        x.way(5, 0, 7);
        x.helper(7);
        x.helper(5);
        x.rate(50);
        Check.feed(x, "look when state = 1");
        return x;
    }

    private static void none(int got) {
        Check.due("refused", got, -1);
    }

    private static void refuse(GiftShops x, int method) {
        switch (METHODS[method]) {
            case "give" -> refuseGive(x);
            case "shelf" -> refuseShelfAndBase(x, true);
            case "base" -> refuseShelfAndBase(x, false);
            case "sort" -> refuseSort(x);
            case "says" -> refuseSays(x);
            case "undo" -> refuseUndo(x);
            case "thefts", "worth", "relief" -> refusePairs(x, METHODS[method]);
            case "way" -> refuseWay(x);
            case "weeks" -> refuseOne(x, "weeks", 61);
            case "habit" -> refuseOne(x, "habit", 1, 9, 10);
            case "round" -> refuseOne(x, "round", 32);
            case "helper", "least" -> refuseOne(x, METHODS[method], 4097);
            case "van" -> refuseOne(x, "van", 1001);
            case "rate" -> refuseOne(x, "rate", 101);
            case "look", "count" -> refuseOne(x, METHODS[method], 10);
            default -> refuseOne(x, METHODS[method], 0, 2, 3, 4, 6, 8, 9);
        }
    }

    private static void refuseGive(GiftShops x) {
        int[] most = {19, 7, 9, 4};
        for (int i = 0; i < 4; i++) {
            for (int other : new int[] {-1, most[i] + 1, Integer.MIN_VALUE}) {
                int[] n = {0, 0, 0, 0};
                n[i] = other;
                none(x.give(n[0], n[1], n[2], n[3]));
            }
        }
    }

    private static void refuseShelfAndBase(GiftShops x, boolean shelf) {
        int[][] wrong = shelf ? new int[][] {{0, 41}, {4, -1}, {5, 0}, {-1, 0}, {WILD[0], 3}, {1, WILD[3]}}
                : new int[][] {{0, 0}, {7, 10001}, {8, 1}, {-1, 1}, {WILD[0], 3}, {1, WILD[3]}};
        for (int[] w : wrong) {
            Check.no("refused", shelf ? x.shelf(w[0], w[1]) : x.base(w[0], w[1]));
        }
    }

    private static void refuseSort(GiftShops x) {
        int[] things = {1, 3, 5, 6, 7, 8, 9, -1, WILD[0], WILD[3]};
        for (int thing : things) {
            none(x.sort(thing, 0));
        }
        for (int shop : new int[] {-1, 5, WILD[0], WILD[3]}) {
            none(x.sort(0, shop));
            none(x.sort(2, shop));
            none(x.sort(4, shop));
        }
    }

    private static void refuseSays(GiftShops x) {
        int[][] wrong = {{-1, 0, 3}, {10, 0, 3}, {0, -1, 3}, {0, 9, 3}, {0, 0, 0}, {0, 0, 5}, {1, 0, WILD[0]}};
        for (int[] w : wrong) {
            none(x.says(w[0], w[1], w[2]));
        }
    }

    private static void refuseUndo(GiftShops x) {
        for (int sale : new int[] {0, 1, 3, -1, WILD[0], WILD[3]}) {
            Check.no("refused", x.undo(sale));
        }
    }

    private static void refusePairs(GiftShops x, String method) {
        int[][] wrong = {{-1, 0}, {0, -1}, {20, 0}, {0, 101}, {WILD[0], 0}, {0, WILD[3]}};
        for (int[] w : wrong) {
            none(method.equals("thefts") ? x.thefts(w[0], w[1])
                    : method.equals("worth") ? x.worth(w[0], w[1]) : x.relief(w[0], w[1]));
        }
    }

    private static void refuseWay(GiftShops x) {
        int[][] wrong = {{0, 0, 1}, {5, 5, 1}, {6, 0, 1}, {0, 6, 1}, {-1, 0, 1}, {0, -1, 1}, {5, 0, 100}, {5, 0, -1}};
        for (int[] w : wrong) {
            Check.no("refused", x.way(w[0], w[1], w[2]));
        }
    }

    private static void refuseOne(GiftShops x, String method, int... numbers) {
        for (int n : numbers) {
            none(called(x, method, n));
        }
        for (int n : WILD) {
            none(called(x, method, n));
        }
    }

    private static int told(boolean taken) {
        return taken ? 1 : -1;
    }

    private static int called(GiftShops x, String method, int n) {
        return switch (method) {
            case "habit" -> x.habit(n);
            case "weeks" -> x.weeks(n);
            case "price" -> x.price(n);
            case "sell" -> x.sell(n);
            case "lose" -> told(x.lose(n));
            case "where" -> x.where(n);
            case "move" -> told(x.move(n));
            case "van" -> told(x.van(n));
            case "round" -> x.round(n);
            case "helper" -> x.helper(n);
            case "least" -> x.least(n);
            case "rate" -> told(x.rate(n));
            case "look" -> Check.look(x, n, 0) == Check.THROWS && Check.look(x, 0, n) == Check.THROWS ? -1 : 1;
            default -> x.count(n);
        };
    }

    /** Every answer that tells of the state, and at last those of calls that change it. */
    private static List<Long> everything(GiftShops x) {
        List<Long> all = new ArrayList<>();
        standing(x, all);
        all.add((long) x.give(7, 1, 1, 1));
        all.add((long) x.sort(9, 0));
        all.add((long) x.sort(9, 3));
        all.add((long) x.sell(9));
        all.add((long) x.helper(3));
        all.add((long) Check.feed(x, ";"));
        all.add((long) x.text());
        all.add((long) x.weeks(52));
        standing(x, all);
        return all;
    }

    private static void standing(GiftShops x, List<Long> all) {
        for (int what = 0; what <= 9; what++) {
            all.add((long) x.count(what));
            all.add((long) x.habit(what));
        }
        for (int thing = 0; thing < x.count(0); thing++) {
            for (int what = 0; what <= 4; what++) {
                all.add(Check.look(x, thing, what));
            }
            all.add((long) x.price(thing));
            all.add((long) x.where(thing));
        }
        for (int shop = 0; shop < 5; shop++) {
            all.add((long) x.worth(0, shop));
            all.add((long) x.worth(7, shop));
            all.add((long) x.thefts(shop, 0));
            all.add((long) x.round(1 << shop));
            all.add((long) x.round(31 - shop));
            all.add((long) x.least(shop));
            all.add((long) x.relief(5 + shop, 0));
        }
    }
}
