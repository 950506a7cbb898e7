/** A test for each sentence that bounds rounds, turns, relief, and what look and count tell (parts 3 and 4). */
public final class PlanEdgesTest {
    private static final int ALL_DAYS = 4095;

    public static void main(String[] args) {
        waysAtFirst();
        leastAndMostWay();
        theSameBack();
        noSuchTwo();
        anotherWay();
        roundOfNone();
        eachOnce();
        leastRound();
        anotherSetOfShops();
        tenHelpers();
        setsOfHelpers();
        anotherSetOfHalfDays();
        twoOnEachHalfDay();
        nobodyWanted();
        cannotBe();
        nobodyMoreThanNeedBe();
        handedOn();
        handedOnFar();
        allHelpers();
        rateAtFirst();
        leastAndMostRate();
        anotherRate();
        toldLastByItsEnd();
        rateOfLaterYears();
        reliefCut();
        reliefOfTheirThings();
        reliefOfNone();
        reliefOfYears();
        lookAtEach();
        lookAtNone();
        countOfEach();
        countOfNone();
        Check.end();
    }

    private static void waysAtFirst() {
        Check.at("ways between the SHOPS and the depot (5): 0 to 99, the same back, 10 at first");
        GiftShops x = new GiftShops();
        for (int set = 1; set < 32; set++) {
            Check.due("set " + set, x.round(set), 10 * (Integer.bitCount(set) + 1));
        }
    }

    private static void leastAndMostWay() {
        Check.at("The way between two of the SHOPS and the depot: true");
        GiftShops x = new GiftShops();
        for (int a = 0; a <= 5; a++) {
            for (int b = 0; b < a; b++) {
                Check.yes("99 from " + a + " to " + b, x.way(a, b, 99));
            }
        }
        Check.due("all of 99", x.round(31), 6 * 99);
        for (int a = 0; a <= 5; a++) {
            for (int b = 0; b < a; b++) {
                Check.yes("0 from " + b + " to " + a, x.way(b, a, 0));
            }
        }
        Check.due("all of 0", x.round(31), 0);
    }

    private static void theSameBack() {
        Check.at("the same back");
        for (int shop = 0; shop < 5; shop++) {
            GiftShops x = new GiftShops();
            x.way(5, shop, 3);
            Check.due("told from the depot to " + shop, x.round(1 << shop), 6);
            x.way(shop, 5, 4);
            Check.due("told to the depot from " + shop, x.round(1 << shop), 8);
        }
        GiftShops x = new GiftShops();
        x.way(5, 0, 1);
        x.way(5, 1, 20);
        x.way(1, 0, 7);
        Check.due("told from 1 to 0", x.round(3), 28);
        x.way(0, 1, 2);
        Check.due("told from 0 to 1", x.round(3), 23);
    }

    private static void noSuchTwo() {
        Check.at("false: no such two");
        GiftShops x = new GiftShops();
        for (int place = 0; place <= 5; place++) {
            Check.no("from " + place + " to itself", x.way(place, place, 1));
            Check.no("6", x.way(place, 6, 1));
            Check.no("6", x.way(6, place, 1));
            for (int wild : Check.WILD) {
                Check.no("" + wild, x.way(place, wild, 1));
                Check.no("" + wild, x.way(wild, place, 1));
            }
        }
        Check.due("all as before", x.round(31), 60);
        Check.due("the depot's ways as before", x.round(16), 20);
    }

    private static void anotherWay() {
        Check.at("false: no such two, another way");
        GiftShops x = new GiftShops();
        Check.no("100", x.way(5, 0, 100));
        for (int wild : Check.WILD) {
            Check.no("" + wild, x.way(5, 0, wild));
        }
        Check.due("as before", x.round(1), 20);
    }

    private static void roundOfNone() {
        Check.at("ROUND through a set of SHOPS (bits)");
        GiftShops x = new GiftShops();
        Check.due("no SHOP", x.round(0), 0);
        for (int shop = 0; shop < 5; shop++) {
            x.way(5, shop, shop + 1);
            Check.due("SHOP " + shop, x.round(1 << shop), 2 * shop + 2);
        }
        Check.due("no SHOP still", x.round(0), 0);
    }

    private static void eachOnce() {
        Check.at("through a set of SHOPS, each once, and back");
        GiftShops x = new GiftShops();
        x.way(5, 0, 99);
        x.way(5, 1, 1);
        x.way(1, 0, 1);
        Check.due("not by way of another SHOP", x.round(1), 198);
        Check.due("there by one, back by the other", x.round(3), 101);
        x.way(5, 2, 99);
        x.way(1, 2, 1);
        x.way(0, 2, 99);
        // 1 twice would make 4: each once it is 1 + 1 + 99 + 99
        Check.due("not twice through one", x.round(7), 200);
    }

    private static void leastRound() {
        Check.at("The least way from the depot through a set of SHOPS");
        int[][] orders = {{0, 1, 2, 3, 4}, {4, 2, 0, 1, 3}, {2, 4, 3, 1, 0}};
        for (int[] order : orders) {
            GiftShops x = new GiftShops();
            x.way(5, order[0], 1);
            for (int i = 1; i < 5; i++) {
                x.way(order[i - 1], order[i], 1);
            }
            x.way(order[4], 5, 1);
            Check.due("all by ways of 1", x.round(31), 6);
            Check.due("without the first", x.round(31 & ~(1 << order[0])), 14);
            Check.due("without the middle", x.round(31 & ~(1 << order[2])), 14);
        }
    }

    private static void anotherSetOfShops() {
        Check.at("NONE for another set");
        GiftShops x = new GiftShops();
        Check.due("all", x.round(31), 60);
        Check.due("32", x.round(32), -1);
        Check.due("33", x.round(33), -1);
        for (int set : Check.WILD) {
            Check.due("" + set, x.round(set), -1);
        }
    }

    private static void tenHelpers() {
        Check.at("A HELPER more: the number; NONE: another set (12 bits), 10 are there");
        GiftShops x = new GiftShops();
        for (int i = 0; i < 10; i++) {
            Check.due("helper " + i, x.helper(1), i);
            Check.due("HELPERS", x.count(9), i + 1);
        }
        Check.due("an 11th", x.helper(ALL_DAYS), -1);
        Check.due("HELPERS", x.count(9), 10);
        Check.due("the 11th does not come", x.least(2), -1);
    }

    private static void setsOfHelpers() {
        Check.at("each can come on a set of 12 half days");
        GiftShops x = new GiftShops();
        Check.due("on none", x.helper(0), 0);
        Check.due("on the last", x.helper(2048), 1);
        Check.due("on the first", x.helper(1), 2);
        Check.due("on all", x.helper(ALL_DAYS), 3);
        for (int day = 0; day < 12; day++) {
            Check.due("half day " + day, x.least(1 << day), day == 0 || day == 11 ? 1 : -1);
        }
        Check.due("4096", x.helper(4096), -1);
        for (int set : Check.WILD) {
            Check.due("" + set, x.helper(set), -1);
        }
        Check.due("HELPERS", x.count(9), 4);
    }

    private static void anotherSetOfHalfDays() {
        Check.at("LEAST TURNS for a set of half days; NONE: another set");
        GiftShops x = new GiftShops();
        x.helper(ALL_DAYS);
        x.helper(ALL_DAYS);
        Check.due("4095", x.least(ALL_DAYS), 12);
        Check.due("4096", x.least(4096), -1);
        Check.due("4097", x.least(4097), -1);
        for (int set : Check.WILD) {
            Check.due("" + set, x.least(set), -1);
        }
    }

    private static void twoOnEachHalfDay() {
        Check.at("A SHOP wants two on each half day of a set");
        GiftShops x = new GiftShops();
        x.helper(3);
        Check.due("one alone", x.least(1), -1);
        x.helper(1);
        Check.due("two", x.least(1), 1);
        Check.due("two on one half day, one on the other", x.least(3), -1);
        x.helper(2);
        Check.due("two on each", x.least(3), 2);
        x.helper(3);
        Check.due("three on each", x.least(3), 1);
    }

    private static void nobodyWanted() {
        Check.at("the least t");
        GiftShops x = new GiftShops();
        Check.due("no half day, no HELPER", x.least(0), 0);
        x.helper(ALL_DAYS);
        Check.due("no half day, one HELPER", x.least(0), 0);
        x.helper(ALL_DAYS);
        Check.due("one half day", x.least(2048), 1);
        Check.due("no half day still", x.least(0), 0);
    }

    private static void cannotBe() {
        Check.at("NONE: another set, it can't be");
        GiftShops x = new GiftShops();
        Check.due("no HELPER", x.least(1), -1);
        Check.due("no HELPER for all", x.least(ALL_DAYS), -1);
        x.helper(ALL_DAYS);
        x.helper(ALL_DAYS - 2048);
        Check.due("the last has one alone", x.least(ALL_DAYS), -1);
        Check.due("the others have two", x.least(ALL_DAYS - 2048), 11);
        x.helper(2048);
        Check.due("now all have", x.least(ALL_DAYS), 12);
    }

    private static void nobodyMoreThanNeedBe() {
        Check.at("who can come then, nobody more than t of them");
        GiftShops x = new GiftShops();
        int[] due = {-1, 12, 8, 6, 5, 4, 4, 3, 3, 3};
        for (int helpers = 1; helpers <= 10; helpers++) {
            x.helper(ALL_DAYS);
            Check.due(helpers + " for 12 half days", x.least(ALL_DAYS), due[helpers - 1]);
            Check.due(helpers + " for one", x.least(64), helpers < 2 ? -1 : 1);
        }
    }

    private static void handedOn() {
        Check.at("the least t so that the half days of that set can each have two HELPERS");
        GiftShops x = new GiftShops();
        // a chain: each half day is shared with the next, so that turns are handed on from end to end
        x.helper(1);
        for (int day = 0; day < 5; day++) {
            x.helper(3 << day);
        }
        x.helper(32);
        Check.due("each once, but for those in the middle", x.least(63), 2);
        Check.due("the first half", x.least(7), 2);
        Check.due("every other", x.least(21), 1);
        x.helper(4);
        x.helper(8);
        Check.due("two more in the middle", x.least(12), 1);
        Check.due("all", x.least(63), 2);
        GiftShops forced = new GiftShops();
        forced.helper(0b111);
        forced.helper(0b111);
        int[] sets = {0b001, 0b001, 0b010, 0b010};
        int[] due = {3, 3, 2, 2};
        for (int i = 0; i < 4; i++) {
            Check.due("the first two with " + i + " more", forced.least(0b111), due[i]);
            forced.helper(sets[i]);
        }
        Check.due("the first two on the last half day alone", forced.least(0b111), 1);
    }

    /** Sets of half days where a search that gives up too soon, or marks the wrong ones, tells one turn too many. */
    private static void handedOnFar() {
        Check.at("LEAST TURNS: the least t");
        int[][] helpers = {{577, 1409, 3280, 356}, {3968, 124, 992, 62}, {6, 3, 6, 96, 2049, 3},
            {3841, 3587, 3587, 1984, 124, 3587, 3968, 31, 248}, {1409, 448, 2065, 3168, 522, 149, 912, 2121, 518},
            {598, 2161, 394, 36, 86, 1569, 13, 2201, 645},
            {2857, 274, 2745, 3469, 1264, 3, 3752, 88, 1601, 2458}};
        int[][] setAndLeast = {{192, 1}, {244, 3}, {6, 1}, {3767, 2}, {2013, 2}, {2807, 2}, {4075, 2}};
        for (int i = 0; i < helpers.length; i++) {
            GiftShops x = new GiftShops();
            for (int set : helpers[i]) {
                x.helper(set);
            }
            Check.due("set " + setAndLeast[i][0], x.least(setAndLeast[i][0]), setAndLeast[i][1]);
        }
    }

    private static void allHelpers() {
        Check.at("HELPERS, 10 at most");
        GiftShops x = new GiftShops();
        for (int i = 0; i < 8; i++) {
            x.helper(1 << i);
        }
        x.helper(ALL_DAYS);
        Check.due("9 of them", x.least(255), 8);
        x.helper(ALL_DAYS);
        Check.due("all 10", x.least(255), 4);
        Check.due("the last two alone", x.least(ALL_DAYS), 8);
    }

    /** Something of giver 5 sold for this price in the week that is. */
    private static GiftShops sold(GiftShops x, int price) {
        x.base(0, price);
        int thing = x.give(5, 0, 0, 4);
        x.sort(thing, 0);
        x.sell(thing);
        return x;
    }

    private static GiftShops sold(int price) {
        return sold(Check.with(Check.ALL_SHELF), price);
    }

    private static void rateAtFirst() {
        Check.at("RATE 0 to 100, 25 at first");
        GiftShops x = sold(1000);
        Check.due("the first YEAR", x.relief(5, 0), 250);
        for (int i = 0; i < 9; i++) {
            x.weeks(52);
        }
        sold(x, 400);
        Check.due("the last YEAR", x.relief(5, 9), 100);
    }

    private static void leastAndMostRate() {
        Check.at("RELIEF's RATE from the running YEAR on: true");
        GiftShops x = sold(999);
        int[][] rateAndRelief = {{0, 0}, {1, 9}, {99, 989}, {100, 999}};
        for (int[] r : rateAndRelief) {
            Check.yes("rate " + r[0], x.rate(r[0]));
            Check.due("by " + r[0], x.relief(5, 0), r[1]);
        }
    }

    private static void anotherRate() {
        Check.at("RELIEF's RATE from the running YEAR on: true; false: another one");
        GiftShops x = sold(1000);
        Check.no("101", x.rate(101));
        for (int rate : Check.WILD) {
            Check.no("" + rate, x.rate(rate));
        }
        Check.due("as before", x.relief(5, 0), 250);
    }

    private static void toldLastByItsEnd() {
        Check.at("that of a YEAR being the one told last by its end");
        GiftShops x = sold(1000);
        x.rate(10);
        x.rate(20);
        Check.due("the last one told", x.relief(5, 0), 200);
        x.weeks(51);
        x.rate(30);
        Check.due("told in its last WEEK", x.relief(5, 0), 300);
        x.weeks(1);
        x.rate(40);
        Check.due("told in the next YEAR's first WEEK", x.relief(5, 0), 300);
        sold(x, 1000);
        Check.due("the next YEAR", x.relief(5, 1), 400);
        x.weeks(51);
        x.rate(50);
        Check.due("the next YEAR in its last WEEK", x.relief(5, 1), 500);
        Check.due("the first YEAR", x.relief(5, 0), 300);
    }

    private static void rateOfLaterYears() {
        Check.at("from the running YEAR on");
        GiftShops x = sold(1000);
        x.weeks(52);
        x.rate(80);
        for (int year = 1; year <= 9; year++) {
            sold(x, 100);
            Check.due("year " + year, x.relief(5, year), 80);
            x.weeks(year < 9 ? 52 : 51);
        }
        Check.yes("told in the last WEEK", x.rate(60));
        Check.due("the last YEAR", x.relief(5, 9), 60);
        Check.due("the YEAR before", x.relief(5, 8), 80);
        Check.due("the first YEAR", x.relief(5, 0), 250);
    }

    private static void reliefCut() {
        Check.at("* RATE / 100, cut");
        GiftShops x = sold(3);
        Check.due("of 3", x.relief(5, 0), 0);
        sold(x, 1);
        Check.due("of 4", x.relief(5, 0), 1);
        sold(x, 3);
        Check.due("of 7", x.relief(5, 0), 1);
        sold(x, 1);
        Check.due("of 8, of the sum and not of each", x.relief(5, 0), 2);
    }

    private static void reliefOfTheirThings() {
        Check.at("the sum of all SALES of their THINGS in that YEAR (VOID ones out)");
        GiftShops x = Check.with(Check.ALL_SHELF);
        x.rate(100);
        for (int giver = 0; giver < 20; giver++) {
            x.base(0, giver + 1);
            x.sort(x.give(giver, 0, 0, 4), giver % 5);
            x.sell(giver);
            Check.due("giver " + giver, x.relief(giver, 0), giver + 1);
        }
        x.base(0, 10000);
        for (int i = 20; i < 100; i++) {
            x.sort(x.give(19, 0, 0, 4), 0);
            x.sell(i);
        }
        Check.due("80 of the dearest and one", x.relief(19, 0), 800020);
        Check.due("the sum of all", x.count(3), 800210);
        x.undo(99);
        Check.due("one VOID", x.relief(19, 0), 790020);
        x.undo(0);
        Check.due("all VOID", x.relief(0, 0), 0);
        x.weeks(52);
        Check.due("of a YEAR without SALES", x.relief(19, 1), 0);
        Check.due("of the YEAR before", x.relief(19, 0), 790020);
    }

    private static void reliefOfNone() {
        Check.at("RELIEF; NONE: no such giver");
        GiftShops x = sold(1000);
        Check.due("giver 20", x.relief(20, 0), -1);
        for (int giver : Check.WILD) {
            Check.due("giver " + giver, x.relief(giver, 0), -1);
        }
        for (int giver = 0; giver < 20; giver++) {
            Check.due("giver " + giver, x.relief(giver, 0), giver == 5 ? 250 : 0);
        }
    }

    private static void reliefOfYears() {
        Check.at("a YEAR behind the running one, below 0");
        GiftShops x = sold(1000);
        for (int year = 0; year <= 9; year++) {
            Check.due("year " + year, x.relief(5, year), year == 0 ? 250 : 0);
            Check.due("behind it", x.relief(5, year + 1), -1);
            Check.due("below 0", x.relief(5, -1), -1);
            x.weeks(51);
            Check.due("behind it in its last WEEK", x.relief(5, year + 1), -1);
            x.weeks(1);
        }
        for (int year : Check.WILD) {
            Check.due("year " + year, x.relief(5, year), -1);
        }
    }

    private static void lookAtEach() {
        Check.at("Of a THING, what 0: 0 to 6 as told, 1: its SHOP (of 1, 5, 6; else NONE), "
                + "2: since when it is on the shelf (of 1; else NONE), 3: how often it was MOVED, 4: WAY by the text now");
        GiftShops x = Check.oneOfEach();
        int[][] due = {{0, -1, -1, 0, 3}, {1, 1, 0, 0, 1}, {2, -1, -1, 0, 2}, {3, -1, -1, 0, 3}, {4, -1, -1, 0, 4},
            {5, 2, -1, 0, 1}, {6, 3, -1, 0, 1}};
        for (int is = 0; is <= 6; is++) {
            for (int what = 0; what <= 4; what++) {
                Check.due("what " + what + " of one that is " + is, Check.look(x, is, what), due[is][what]);
            }
        }
        x.base(0, 1000);
        x.weeks(1);
        x.move(1);
        x.sell(1);
        int[] sold = {5, 2, -1, 1, 1};
        for (int what = 0; what <= 4; what++) {
            Check.due("what " + what + " of one MOVED and SOLD", Check.look(x, 1, what), sold[what]);
        }
        x.undo(1);
        x.weeks(5);
        int[] rag = {3, -1, -1, 1, 1};
        for (int what = 0; what <= 4; what++) {
            Check.due("what " + what + " of one MOVED and RAG", Check.look(x, 1, what), rag[what]);
        }
    }

    private static void lookAtNone() {
        Check.at("NoSuchElementException: none such");
        GiftShops x = new GiftShops();
        Check.due("no THING yet", Check.look(x, 0, 0), Check.THROWS);
        x.give(0, 0, 0, 0);
        Check.due("the first", Check.look(x, 0, 0), 0);
        Check.due("behind the last", Check.look(x, 1, 0), Check.THROWS);
        for (int thing : Check.WILD) {
            for (int what = 0; what <= 5; what++) {
                Check.due("THING " + thing + ", what " + what, Check.look(x, thing, what), Check.THROWS);
            }
        }
        // "none such" is read of what, too: NOTES.md tells of this reading
        Check.due("what 5", Check.look(x, 0, 5), Check.THROWS);
        for (int what : Check.WILD) {
            Check.due("what " + what, Check.look(x, 0, what), Check.THROWS);
        }
    }

    private static void countOfEach() {
        Check.at("What 0: THINGS, 1: NOW, 2: SALES that are not VOID, 3: their sum, 4: THINGS on shelves, 5: in the STORE, "
                + "6: RAG, 7: lines of the text, 8: signs on the TAPE, 9: HELPERS");
        GiftShops x = Check.oneOfEach();
        x.give(0, 0, 1, 0);
        x.sort(7, 1);
        x.sell(1);
        x.undo(1);
        x.weeks(2);
        x.helper(1);
        x.helper(2);
        x.helper(4);
        Check.feed(x, "look when");
        int[] due = {8, 2, 1, 10, 2, 1, 1, 4, 9, 3};
        for (int what = 0; what <= 9; what++) {
            Check.due("what " + what, x.count(what), due[what]);
        }
    }

    private static void countOfNone() {
        Check.at("NONE for another what");
        GiftShops x = new GiftShops();
        Check.due("what 9", x.count(9), 0);
        Check.due("what 10", x.count(10), -1);
        for (int what : Check.WILD) {
            Check.due("what " + what, x.count(what), -1);
        }
    }
}
