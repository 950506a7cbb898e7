/** A test for each sentence that bounds weeks, shops, things, bases and prices (the document's part 1). */
public final class ThingEdgesTest {
    private static final String BY_SEASON =
            "shelf when now = 0; store when now = 1; rag when now = 2; look when now = 3;";

    public static void main(String[] args) {
        nothingAtFirst();
        lastWeek();
        weeksOfOneCall();
        beyondTheLastWeek();
        seasonsOfThirteenWeeks();
        yearsOfFiftyTwoWeeks();
        fiveShops();
        roomAtFirst();
        leastAndMostRoom();
        otherRoom();
        roomBelowWhatLies();
        hundredThings();
        numbersOfThings();
        otherNumbersOfThings();
        whatAThingIs();
        baseAtFirst();
        leastAndMostBase();
        otherBase();
        priceByWeeks();
        priceCut();
        priceOneAtLeast();
        weeksOnThisShelf();
        ragAfterFiveWeeks();
        ragWithinOneCall();
        ragLeavesRoom();
        priceOfNone();
        priceOffTheShelf();
        Check.end();
    }

    private static void nothingAtFirst() {
        Check.at("No THING; NOW is 0");
        GiftShops x = new GiftShops();
        for (int what = 0; what <= 9; what++) {
            Check.due("count(" + what + ")", x.count(what), 0);
        }
        Check.due("look(0, 0)", Check.look(x, 0, 0), Check.THROWS);
        Check.due("sort(0, 0)", x.sort(0, 0), -1);
        Check.due("the first number", x.give(0, 0, 0, 0), 0);
    }

    private static GiftShops atWeek(GiftShops x, int week) {
        while (x.count(1) < week) {
            x.weeks(Math.min(60, week - x.count(1)));
        }
        return x;
    }

    private static void lastWeek() {
        Check.at("WEEKS are 0 to 519; NOW is one, 0 at first");
        GiftShops x = new GiftShops();
        Check.due("at first", x.count(1), 0);
        atWeek(x, 518);
        Check.due("the last but one", x.count(1), 518);
        Check.due("the last", x.weeks(1), 519);
        Check.due("none behind it", x.weeks(1), -1);
        Check.due("it stays", x.count(1), 519);
        Check.due("no week more", x.weeks(0), 519);
    }

    private static void weeksOfOneCall() {
        Check.at("n WEEKS end (0 to 60): NOW; NONE for another n");
        GiftShops x = new GiftShops();
        Check.due("weeks(0)", x.weeks(0), 0);
        Check.due("weeks(61)", x.weeks(61), -1);
        Check.due("weeks(60)", x.weeks(60), 60);
        for (int n : Check.WILD) {
            Check.due("weeks(" + n + ")", x.weeks(n), -1);
        }
        Check.due("NOW", x.count(1), 60);
    }

    private static void beyondTheLastWeek() {
        Check.at("NONE for another n, beyond 519");
        GiftShops x = atWeek(Check.with("shelf when season = 4; store when 1;"), 460);
        x.sort(x.give(0, 0, 0, 4), 0);
        x.sort(x.give(0, 0, 0, 0), 0);
        Check.due("60 of 59 that are left", x.weeks(60), -1);
        Check.due("NOW", x.count(1), 460);
        Check.due("no week ended on the shelf", x.price(0), 10);
        Check.due("nor in the shop", x.worth(0, 0), 5);
        Check.due("all that are left", x.weeks(59), 519);
        Check.due("then they end", Check.look(x, 0, 0), 3);
    }

    private static void seasonsOfThirteenWeeks() {
        Check.at("a SEASON is 13 WEEKS (NOW / 13 modulo 4)");
        GiftShops x = Check.with(BY_SEASON);
        x.give(0, 0, 0, 0);
        int[][] weekAndSeason = {{0, 0}, {1, 0}, {6, 0}, {12, 0}, {13, 1}, {14, 1}, {25, 1}, {26, 2}, {38, 2}, {39, 3},
            {51, 3}, {52, 0}, {55, 0}, {64, 0}, {65, 1}, {103, 3}, {104, 0}, {506, 2}, {507, 3}, {519, 3}};
        for (int[] w : weekAndSeason) {
            atWeek(x, w[0]);
            Check.due("the season of week " + w[0], Check.look(x, 0, 4) - 1, w[1]);
        }
    }

    private static void yearsOfFiftyTwoWeeks() {
        Check.at("a YEAR 52");
        GiftShops x = Check.with(Check.ALL_SHELF);
        x.rate(100);
        int[] weeks = {0, 51, 52, 103, 104, 467, 468, 519};
        int[] years = {0, 0, 1, 1, 2, 8, 9, 9};
        int[] sums = {1, 3, 4, 12, 16, 32, 64, 192};
        for (int i = 0; i < weeks.length; i++) {
            atWeek(x, weeks[i]);
            x.base(0, 1 << i);
            x.sort(x.give(0, 0, 0, 4), 0);
            x.sell(i);
            Check.due("sold in year " + years[i] + " up to week " + weeks[i], x.relief(0, years[i]), sums[i]);
            Check.due("the year behind week " + weeks[i], x.relief(0, years[i] + 1), -1);
        }
    }

    private static void fiveShops() {
        Check.at("SHOPS 0 to 4");
        GiftShops x = Check.with(Check.ALL_SHELF);
        int thing = x.give(0, 0, 0, 4);
        for (int shop : new int[] {-1, 5, Integer.MIN_VALUE, Integer.MAX_VALUE}) {
            Check.no("shelf of " + shop, x.shelf(shop, 1));
            Check.due("sort for " + shop, x.sort(thing, shop), -1);
            Check.due("thefts of " + shop, x.thefts(shop, 0), -1);
            Check.due("worth in " + shop, x.worth(thing, shop), -1);
        }
        for (int shop = 0; shop < 5; shop++) {
            Check.yes("shelf of " + shop, x.shelf(shop, 1));
            Check.due("sort for " + shop, x.sort(x.give(0, 0, 0, 4), shop), 1);
            Check.due("its shop", Check.look(x, shop + 1, 1), shop);
            Check.due("thefts of " + shop, x.thefts(shop, 0), 0);
            Check.due("worth in " + shop, x.worth(thing, shop), 5);
        }
    }

    private static void fill(GiftShops x, int shop, int room) {
        for (int i = 1; i <= room; i++) {
            Check.due("thing " + i + " in shop " + shop, x.sort(x.give(0, 0, 0, 4), shop), 1);
        }
        Check.due("one more than " + room + " in shop " + shop, x.sort(x.give(0, 0, 0, 4), shop), 2);
    }

    private static void roomAtFirst() {
        Check.at("each with a shelf for so many THINGS (0 to 40; 10 at first)");
        GiftShops x = Check.with(Check.ALL_SHELF);
        for (int shop = 0; shop < 5; shop++) {
            fill(x, shop, 10);
        }
    }

    private static void leastAndMostRoom() {
        Check.at("A SHOP's shelf is for so many");
        GiftShops x = Check.with(Check.ALL_SHELF);
        Check.yes("0", x.shelf(0, 0));
        fill(x, 0, 0);
        Check.yes("1", x.shelf(1, 1));
        fill(x, 1, 1);
        Check.yes("40", x.shelf(4, 40));
        fill(x, 4, 40);
        fill(x, 2, 10);
    }

    private static void otherRoom() {
        Check.at("false: none such, another number");
        GiftShops x = Check.with(Check.ALL_SHELF);
        Check.no("41", x.shelf(0, 41));
        for (int room : Check.WILD) {
            Check.no("" + room, x.shelf(0, room));
        }
        Check.no("shop -1", x.shelf(-1, 3));
        Check.no("shop 5", x.shelf(5, 3));
        fill(x, 0, 10);
        fill(x, 4, 10);
    }

    private static void roomBelowWhatLies() {
        Check.at("(those that lie there stay)");
        GiftShops x = Check.lying(3, 2);
        x.shelf(2, 1);
        Check.due("all three", x.count(4), 3);
        int fourth = x.give(0, 0, 0, 4);
        x.lose(0);
        Check.due("two lie on a shelf for one", x.sort(fourth, 2), 2);
        x.lose(1);
        Check.due("one lies on a shelf for one", x.sort(fourth, 2), 2);
        x.lose(2);
        Check.due("none lies on a shelf for one", x.sort(fourth, 2), 1);
    }

    private static void hundredThings() {
        Check.at("A THING more: its number; NONE: other numbers, 100 are there");
        GiftShops x = new GiftShops();
        for (int i = 0; i < 100; i++) {
            Check.due("thing " + i, x.give(i % 20, i % 8, i % 10, i % 5), i);
        }
        Check.due("a 101st", x.give(0, 0, 0, 0), -1);
        Check.due("THINGS", x.count(0), 100);
        Check.due("look at the last", Check.look(x, 99, 0), 0);
        Check.due("look behind it", Check.look(x, 100, 0), Check.THROWS);
    }

    private static void numbersOfThings() {
        Check.at("a giver (0 to 19), a kind (0 to 7), a state (0 to 9), a SEASON for which it is (0 to 3; 4: all)");
        GiftShops x = Check.with("look when giver = 19 and kind = 7 and state = 9 and season = 4;"
                + "shelf when giver + kind + state + season = 0; store when season = 3;");
        Check.due("all lowest", x.give(0, 0, 0, 0), 0);
        Check.due("all highest", x.give(19, 7, 9, 4), 1);
        Check.due("the last season", x.give(19, 7, 9, 3), 2);
        Check.due("way of the lowest", Check.look(x, 0, 4), 1);
        Check.due("way of the highest", Check.look(x, 1, 4), 4);
        Check.due("way of the last season", Check.look(x, 2, 4), 2);
    }

    private static void otherNumbersOfThings() {
        Check.at("NONE: other numbers");
        GiftShops x = new GiftShops();
        int[] most = {19, 7, 9, 4};
        for (int i = 0; i < 4; i++) {
            int[] others = {-1, most[i] + 1, Integer.MIN_VALUE, Integer.MAX_VALUE};
            for (int other : others) {
                int[] n = {1, 1, 1, 1};
                n[i] = other;
                Check.due("number " + i + " being " + other, x.give(n[0], n[1], n[2], n[3]), -1);
            }
        }
        Check.due("THINGS", x.count(0), 0);
        Check.due("the next", x.give(1, 1, 1, 1), 0);
    }

    private static void whatAThingIs() {
        Check.at("A THING is 0 NEW, 1 on a shelf, 2 in the STORE, 3 RAG, 4 LOOKED UP, 5 SOLD, 6 LOST");
        GiftShops x = new GiftShops();
        x.give(0, 0, 0, 4);
        Check.due("given", Check.look(x, 0, 0), 0);
        sortedBy(x, "look when 1;", 4);
        sortedBy(x, "store when 1;", 2);
        sortedBy(x, "look when 1;", 4);
        sortedBy(x, Check.ALL_SHELF, 1);
        x.sell(0);
        Check.due("sold", Check.look(x, 0, 0), 5);
        x.undo(0);
        Check.due("its sale made void", Check.look(x, 0, 0), 1);
        x.lose(0);
        Check.due("lost", Check.look(x, 0, 0), 6);
        x.sort(x.give(0, 0, 0, 4), 0);
        x.weeks(60);
        Check.due("lain for too long", Check.look(x, 1, 0), 3);
        Check.due("lost for good", Check.look(x, 0, 0), 6);
    }

    private static void sortedBy(GiftShops x, String text, int is) {
        Check.read(x, text);
        Check.due("sorted by " + text, x.sort(0, 3), is);
        Check.due("looked at after " + text, Check.look(x, 0, 0), is);
    }

    private static void baseAtFirst() {
        Check.at("each kind has a base (1 to 10000; 10 at first)");
        GiftShops x = Check.with(Check.ALL_SHELF);
        for (int kind = 0; kind < 8; kind++) {
            x.sort(x.give(0, kind, 0, 4), 0);
            Check.due("kind " + kind, x.price(kind), 10);
        }
    }

    private static void leastAndMostBase() {
        Check.at("A kind's base: true");
        GiftShops x = Check.with(Check.ALL_SHELF);
        for (int kind = 0; kind < 8; kind++) {
            x.sort(x.give(0, kind, 0, 4), 0);
            Check.yes("1 for kind " + kind, x.base(kind, 1));
            Check.due("price of kind " + kind, x.price(kind), 1);
            Check.yes("10000 for kind " + kind, x.base(kind, 10000));
            Check.due("price of kind " + kind, x.price(kind), 10000);
        }
        x.base(3, 7);
        Check.due("of its own kind alone", x.price(2), 10000);
        Check.due("of its own kind alone", x.price(4), 10000);
    }

    private static void otherBase() {
        Check.at("false: none such, another base");
        GiftShops x = Check.with(Check.ALL_SHELF);
        x.sort(x.give(0, 0, 0, 4), 0);
        x.sort(x.give(0, 7, 0, 4), 0);
        for (int base : new int[] {0, -1, 10001, Integer.MIN_VALUE, Integer.MAX_VALUE}) {
            Check.no("base " + base, x.base(0, base));
        }
        for (int kind : new int[] {-1, 8, Integer.MIN_VALUE, Integer.MAX_VALUE}) {
            Check.no("kind " + kind, x.base(kind, 20));
        }
        Check.due("the first kind's price", x.price(0), 10);
        Check.due("the last kind's price", x.price(1), 10);
    }

    private static void prices(int base, int... due) {
        GiftShops x = Check.lying(1, 0);
        x.base(0, base);
        for (int week = 0; week < 5; week++) {
            Check.due("base " + base + ", week " + week, x.price(0), due[week]);
            x.weeks(1);
        }
    }

    private static void priceByWeeks() {
        Check.at("A THING on a shelf for w WEEKS (since it came on this one) costs base * (10 - 2 * w) / 10");
        prices(10, 10, 8, 6, 4, 2);
        prices(10000, 10000, 8000, 6000, 4000, 2000);
    }

    private static void priceCut() {
        Check.at("costs base * (10 - 2 * w) / 10, cut");
        prices(99, 99, 79, 59, 39, 19);
        prices(7, 7, 5, 4, 2, 1);
    }

    private static void priceOneAtLeast() {
        Check.at("cut, 1 at least");
        prices(4, 4, 3, 2, 1, 1);
        prices(1, 1, 1, 1, 1, 1);
        GiftShops x = Check.lying(1, 0);
        x.base(0, 10000);
        x.sell(0);
        x.weeks(5);
        x.undo(0);
        Check.due("void after 5 weeks", x.price(0), 1);
        x.sell(0);
        x.weeks(60);
        x.undo(1);
        Check.due("void after 65 weeks", x.price(0), 1);
    }

    private static void weeksOnThisShelf() {
        Check.at("(since it came on this one)");
        GiftShops x = Check.lying(1, 0);
        x.base(0, 100);
        x.weeks(4);
        Check.due("on the first shelf", x.price(0), 20);
        Check.yes("moved", x.move(0));
        Check.due("on the next shelf", x.price(0), 100);
        x.weeks(4);
        Check.due("four weeks there", x.price(0), 20);
        Check.due("still there", Check.look(x, 0, 0), 1);
        int late = x.give(0, 0, 0, 4);
        x.sort(late, 3);
        Check.due("a later one", x.price(late), 100);
    }

    private static void ragAfterFiveWeeks() {
        Check.at("as a WEEK ends and it was there for 5 it is RAG");
        GiftShops x = Check.lying(1, 0);
        x.weeks(4);
        x.sort(x.give(0, 0, 0, 4), 0);
        Check.due("four weeks", Check.look(x, 0, 0), 1);
        x.weeks(1);
        Check.due("five weeks", Check.look(x, 0, 0), 3);
        Check.due("the other one", Check.look(x, 1, 0), 1);
        Check.due("RAG", x.count(6), 1);
        x.weeks(4);
        Check.due("both", x.count(6), 2);
    }

    private static void ragWithinOneCall() {
        Check.at("n WEEKS end");
        GiftShops x = Check.lying(2, 0);
        x.weeks(60);
        Check.due("RAG", x.count(6), 2);
        x.base(0, 1200);
        Check.due("they lay for five weeks each, no more", x.worth(0, 0), 100);
    }

    private static void ragLeavesRoom() {
        Check.at("it was there for 5 it is RAG");
        GiftShops x = Check.lying(10, 0);
        int next = x.give(0, 0, 0, 4);
        x.weeks(5);
        Check.due("its SHOP", Check.look(x, 9, 1), -1);
        Check.due("since when", Check.look(x, 9, 2), -1);
        Check.due("room again", x.sort(next, 0), 1);
        Check.due("a RAG is not sorted", x.sort(0, 0), -1);
    }

    private static void priceOfNone() {
        Check.at("A THING's price; NONE: none such");
        GiftShops x = Check.lying(2, 0);
        Check.due("the last", x.price(1), 10);
        Check.due("behind it", x.price(2), -1);
        for (int thing : Check.WILD) {
            Check.due("thing " + thing, x.price(thing), -1);
        }
    }

    private static void priceOffTheShelf() {
        Check.at("A THING's price; NONE: none such, it is not on a shelf");
        GiftShops x = Check.oneOfEach();
        for (int is = 0; is <= 6; is++) {
            Check.due("of one that is " + is, x.price(is), is == 1 ? 10 : -1);
        }
    }
}
